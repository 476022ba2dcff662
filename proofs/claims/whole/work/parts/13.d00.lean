/-! the constructor of the reference (written by wip/gen/cgen2.py) -/
theorem w_1171 : Cond.methodLink "UrnHeapModel" 1 Lib.objectInit ∈ gT_ := gm_ 1171 (by decide +kernel)
theorem dX12_init_0 : decode cX12_init 0 = .ok (.aload_n 0, 1) := by decide +kernel
theorem dX12_init_1 : decode cX12_init 1 = .ok (.invokespecial 1, 3) := by decide +kernel
theorem dX12_init_4 : decode cX12_init 4 = .ok (.aload_n 0, 1) := by decide +kernel
theorem dX12_init_5 : decode cX12_init 5 = .ok (.sipush 293, 3) := by decide +kernel
theorem dX12_init_8 : decode cX12_init 8 = .ok (.newarray .int, 2) := by decide +kernel
theorem dX12_init_10 : decode cX12_init 10 = .ok (.putfield 7, 3) := by decide +kernel
theorem dX12_init_13 : decode cX12_init 13 = .ok (.aload_n 0, 1) := by decide +kernel
theorem dX12_init_14 : decode cX12_init 14 = .ok (.sipush 293, 3) := by decide +kernel
theorem dX12_init_17 : decode cX12_init 17 = .ok (.newarray .int, 2) := by decide +kernel
theorem dX12_init_19 : decode cX12_init 19 = .ok (.putfield 13, 3) := by decide +kernel
theorem dX12_init_22 : decode cX12_init 22 = .ok (.aload_n 0, 1) := by decide +kernel
theorem dX12_init_23 : decode cX12_init 23 = .ok (.sipush 293, 3) := by decide +kernel
theorem dX12_init_26 : decode cX12_init 26 = .ok (.newarray .int, 2) := by decide +kernel
theorem dX12_init_28 : decode cX12_init 28 = .ok (.putfield 16, 3) := by decide +kernel
theorem dX12_init_31 : decode cX12_init 31 = .ok (.aload_n 0, 1) := by decide +kernel
theorem dX12_init_32 : decode cX12_init 32 = .ok (.sipush 2344, 3) := by decide +kernel
theorem dX12_init_35 : decode cX12_init 35 = .ok (.newarray .int, 2) := by decide +kernel
theorem dX12_init_37 : decode cX12_init 37 = .ok (.putfield 19, 3) := by decide +kernel
theorem dX12_init_40 : decode cX12_init 40 = .ok (.aload_n 0, 1) := by decide +kernel
theorem dX12_init_41 : decode cX12_init 41 = .ok (.bipush 60, 2) := by decide +kernel
theorem dX12_init_43 : decode cX12_init 43 = .ok (.newarray .int, 2) := by decide +kernel
theorem dX12_init_45 : decode cX12_init 45 = .ok (.putfield 22, 3) := by decide +kernel
theorem dX12_init_48 : decode cX12_init 48 = .ok (.aload_n 0, 1) := by decide +kernel
theorem dX12_init_49 : decode cX12_init 49 = .ok (.bipush 80, 2) := by decide +kernel
theorem dX12_init_51 : decode cX12_init 51 = .ok (.newarray .int, 2) := by decide +kernel
theorem dX12_init_53 : decode cX12_init 53 = .ok (.putfield 25, 3) := by decide +kernel
theorem dX12_init_56 : decode cX12_init 56 = .ok (.aload_n 0, 1) := by decide +kernel
theorem dX12_init_57 : decode cX12_init 57 = .ok (.bipush 60, 2) := by decide +kernel
theorem dX12_init_59 : decode cX12_init 59 = .ok (.newarray .int, 2) := by decide +kernel
theorem dX12_init_61 : decode cX12_init 61 = .ok (.putfield 28, 3) := by decide +kernel
theorem dX12_init_64 : decode cX12_init 64 = .ok (.aload_n 0, 1) := by decide +kernel
theorem dX12_init_65 : decode cX12_init 65 = .ok (.bipush 24, 2) := by decide +kernel
theorem dX12_init_67 : decode cX12_init 67 = .ok (.newarray .int, 2) := by decide +kernel
theorem dX12_init_69 : decode cX12_init 69 = .ok (.putfield 31, 3) := by decide +kernel
theorem dX12_init_72 : decode cX12_init 72 = .ok (.iconst 0, 1) := by decide +kernel
theorem dX12_init_73 : decode cX12_init 73 = .ok (.istore_n 1, 1) := by decide +kernel
theorem dX12_init_74 : decode cX12_init 74 = .ok (.iload_n 1, 1) := by decide +kernel
theorem dX12_init_75 : decode cX12_init 75 = .ok (.bipush 6, 2) := by decide +kernel
theorem dX12_init_77 : decode cX12_init 77 = .ok (.if_icmp .ge 20, 3) := by decide +kernel
theorem dX12_init_80 : decode cX12_init 80 = .ok (.aload_n 0, 1) := by decide +kernel
theorem dX12_init_81 : decode cX12_init 81 = .ok (.getfield 7, 3) := by decide +kernel
theorem dX12_init_84 : decode cX12_init 84 = .ok (.bipush 11, 2) := by decide +kernel
theorem dX12_init_86 : decode cX12_init 86 = .ok (.iload_n 1, 1) := by decide +kernel
theorem dX12_init_87 : decode cX12_init 87 = .ok (.iadd, 1) := by decide +kernel
theorem dX12_init_88 : decode cX12_init 88 = .ok (.bipush (-15), 2) := by decide +kernel
theorem dX12_init_90 : decode cX12_init 90 = .ok (.iastore, 1) := by decide +kernel
theorem dX12_init_91 : decode cX12_init 91 = .ok (.iinc 1 1, 3) := by decide +kernel
theorem dX12_init_94 : decode cX12_init 94 = .ok (.goto (-20), 3) := by decide +kernel
theorem dX12_init_97 : decode cX12_init 97 = .ok (.iconst 0, 1) := by decide +kernel
theorem dX12_init_98 : decode cX12_init 98 = .ok (.istore_n 1, 1) := by decide +kernel
theorem dX12_init_99 : decode cX12_init 99 = .ok (.iload_n 1, 1) := by decide +kernel
theorem dX12_init_100 : decode cX12_init 100 = .ok (.bipush 24, 2) := by decide +kernel
theorem dX12_init_102 : decode cX12_init 102 = .ok (.if_icmp .ge 14, 3) := by decide +kernel
theorem dX12_init_105 : decode cX12_init 105 = .ok (.aload_n 0, 1) := by decide +kernel
theorem dX12_init_106 : decode cX12_init 106 = .ok (.iload_n 1, 1) := by decide +kernel
theorem dX12_init_107 : decode cX12_init 107 = .ok (.invokevirtual 34, 3) := by decide +kernel
theorem dX12_init_110 : decode cX12_init 110 = .ok (.iinc 1 1, 3) := by decide +kernel
theorem dX12_init_113 : decode cX12_init 113 = .ok (.goto (-14), 3) := by decide +kernel
theorem dX12_init_116 : decode cX12_init 116 = .ok (.return_, 1) := by decide +kernel
def f_X12i_L99  : Nat → Int → mu_T → Option mu_T
  | 0, _, _ => none
  | fu99 + 1, x1_99, μ99 => lt_ x1_99 24
      (bd_ (f_X12_empties μ99 x1_99) (fun μ107 => nm_ (x1_99 + 1) (fun n110 => (f_X12i_L99 fu99) n110 μ107)))
      (some μ99)
def f_X12i_L74 (J97 : mu_T → Option mu_T) : Nat → Int → mu_T → Option mu_T
  | 0, _, _ => none
  | fu74 + 1, x1_74, μ74 => lt_ x1_74 6
      (wr_ μ74 1 293 (11 + x1_74) (-15) (fun μ90 => nm_ (x1_74 + 1) (fun n91 => (f_X12i_L74 J97 fu74) n91 μ90)))
      (J97 μ74)
def f_X12i (μ : mu_T) : Option mu_T :=
  jn_ (φ := mu_T → Option mu_T) (fun μ97 => f_X12i_L99 20000 0 μ97)
      (fun J97 => f_X12i_L74 J97 20000 0 μ)
def mM0_ : mu_T := (f_X12i mz_).getD mz_
theorem mM0_ok : f_X12i mz_ = some mM0_ := by
  have h : (f_X12i mz_).isSome = true := by decide +kernel
  unfold mM0_
  cases e : f_X12i mz_ with
  | none => rw [e] at h; cases h
  | some μ => rfl
theorem xx_qret {G : gp_} {X : ct_} {N : Nat} {ad : Nat → Nat} {ce : Nat → (Int → Int) → va_E} {μ : mu_T} {k n pc : Nat} {lv : List (Nat × Value)} {cc : ByteArray} {own : String} {rm : Room} {ret : Option FieldType} {nl : Nat} (C : cx_ G X cc own rm ret nl) {S : Type} {w : S → va_W} (E : eg_ X rm (fun A => qc_ G A w)) (hr : ret = none) (u : S) (hw : w u = wl_ N ad ce μ) (hk : k ≤ rm.cells ∧ n ≤ rm.slots) (d : decode cc pc = .ok (.return_, 1)) : wx_ G X N ad ce μ k n pc lv [] := by
  obtain ⟨p, l, e, R, s, m, args, below, meth, c, Q, A, nL⟩ := X
  intro H locs ls hP hD hS hl
  obtain ⟨hx, hb, -, -, hK, -, -, hlocks, -, -, hrt, -, -⟩ := C
  subst hr
  rw [show Q = _ from E]
  rw [← hw] at hP hD
  refine W.widen hk.1 hk.2 ?_
  exact W.vret hx hb hrt (fun t ht hW => ⟨⟨u, rfl, trivial, by rw [ht]; exact hP, va_K.moved hW.alike hK, hD⟩, hS.F ht⟩) hS.2.2 d hlocks
set_option maxHeartbeats 4000000 in
set_option maxRecDepth 100000 in
theorem k_X12i {G : gp_} {X : ct_} {ad : Nat → Nat} (C : cx_ G X cX12_init "UrnHeapModel" ({ frames := 2, cells := 8, slots := 3447, locals := 43 } : Room) none 2) {S : Type} {w : S → va_W} (E : eg_ X ({ frames := 2, cells := 8, slots := 3447, locals := 43 } : Room) (fun A => qc_ G A w)) (u : S) (μr : mu_T) (hw0 : w u = wl_ 9 ad (ceM G ad) μr) (μ : mu_T) (h : f_X12i μ = some μr) : wx_ G X 9 ad (ceM G ad) μ 8 3447 72 [(0, .ref (ad 0))] [] := by
  have hw : ∀ μ1 μ2 : mu_T, some μ1 = some μr → w u = wl_ 9 ad (ceM G ad) μ1 := fun μ1 μ2 h9 => by rw [Option.some.inj h9]; exact hw0
  unfold f_X12i at h
  refine xx_iconst C 73 rfl dX12_init_72 ?_
  refine xx_istore_n (lv1 := [(1, .int (iI 0)), (0, .ref (ad 0))]) C 74 rfl (by decide) dX12_init_73 rfl rfl ?_
  refine jn_r (fun J => ∀ (μ97 : mu_T), J μ97 = some μr → wx_ G X 9 ad (ceM G ad) μ97 8 3447 97 [(0, .ref (ad 0))] []) h (fun μ97 h => ?_) (fun J97 K97 h => ?_)
  · refine xx_iconst C 98 rfl dX12_init_97 ?_
    refine xx_istore_n (lv1 := [(1, .int (iI 0)), (0, .ref (ad 0))]) C 99 rfl (by decide) dX12_init_98 rfl rfl ?_
    have L99 : ∀ (fu99 : Nat) (x1_99 : Int) (μ99 : mu_T), f_X12i_L99 fu99 x1_99 μ99 = some μr → wx_ G X 9 ad (ceM G ad) μ99 8 3447 99 [(0, .ref (ad 0)), (1, .int (iI x1_99))] [] := by
      intro fu99
      induction fu99 with
      | zero => intro x1_99 μ99 h; exact nn_ h
      | succ fu99 K99 =>
        intro x1_99 μ99 h
        rw [f_X12i_L99] at h
        generalize f_X12i_L99 fu99 = R99 at K99 h
        refine xx_iload_n C 100 rfl 1 dX12_init_99 rfl rfl ?_
        refine xx_bipush C 102 rfl dX12_init_100 (by decide) ?_
        refine xx_icmp_ge (tgt := 116) C 105 rfl dX12_init_102 (by decide) h (fun h => ?_) (fun h => ?_)
        · exact xx_qret C E rfl u (hw _ mz_ h) ⟨(Nat.le_of_ble_eq_true rfl), (Nat.le_of_ble_eq_true rfl)⟩ dX12_init_116
        · refine xx_aload_n C 106 rfl 0 dX12_init_105 rfl rfl ?_
          refine xx_iload_n C 107 rfl 1 dX12_init_106 rfl rfl ?_
          refine xx_cVv (As := [.int (iI x1_99)]) (st := []) (o := 0) C 110 rfl (by decide) (ceM_0 _ _ _) rfl rfl ca_X12_empties cv_X12_empties w_1172 rfl ⟨Nat.le_of_ble_eq_true rfl, Nat.le_of_ble_eq_true rfl⟩ ⟨Nat.le_of_ble_eq_true rfl, Nat.le_of_ble_eq_true rfl⟩ (Nat.le_of_ble_eq_true rfl) dX12_init_107 (fun μ107 e9 => c_X12_empties _ _ μ107 e9) h (fun μ107 h => ?_) rfl
          refine xx_iincn C 113 rfl 1 (by decide) dX12_init_110 rfl h (fun n110 h => ?_)
          refine xx_lv (lv1 := [(1, .int (iI n110)), (0, .ref (ad 0))]) rfl ?_
          refine xx_goto C 99 dX12_init_113 (by decide) ?_
          refine xx_sub [1, 0] rfl ?_
          exact K99 n110 μ107 h
    refine xx_sub [1, 0] rfl ?_
    exact L99 _ _ _ h
  · have L74 : ∀ (fu74 : Nat) (x1_74 : Int) (μ74 : mu_T), f_X12i_L74 J97 fu74 x1_74 μ74 = some μr → wx_ G X 9 ad (ceM G ad) μ74 8 3447 74 [(0, .ref (ad 0)), (1, .int (iI x1_74))] [] := by
      intro fu74
      induction fu74 with
      | zero => intro x1_74 μ74 h; exact nn_ h
      | succ fu74 K74 =>
        intro x1_74 μ74 h
        rw [f_X12i_L74] at h
        generalize f_X12i_L74 J97 fu74 = R74 at K74 h
        refine xx_iload_n C 75 rfl 1 dX12_init_74 rfl rfl ?_
        refine xx_bipush C 77 rfl dX12_init_75 (by decide) ?_
        refine xx_icmp_ge (tgt := 97) C 80 rfl dX12_init_77 (by decide) h (fun h => ?_) (fun h => ?_)
        · refine xx_sub [0] rfl ?_
          exact K97 μ74 h
        · refine xx_aload_n C 81 rfl 0 dX12_init_80 rfl rfl ?_
          refine xx_getr (fi := 0) C 84 rfl (by decide) (ceM_0 _ _ _) rfl in_X12 (by decide) rfl w_1179 dX12_init_81 ?_
          refine xx_bipush C 86 rfl dX12_init_84 (by decide) ?_
          refine xx_iload_n C 87 rfl 1 dX12_init_86 rfl rfl ?_
          refine xx_iadd C 88 rfl dX12_init_87 ?_
          refine xx_bipush C 90 rfl dX12_init_88 (by decide) ?_
          refine xx_iastore C 91 rfl (by decide) (fun _ => rfl) (by decide) dX12_init_90 h (fun μ90 h => ?_)
          refine xx_iincn C 94 rfl 1 (by decide) dX12_init_91 rfl h (fun n91 h => ?_)
          refine xx_lv (lv1 := [(1, .int (iI n91)), (0, .ref (ad 0))]) rfl ?_
          refine xx_goto C 74 dX12_init_94 (by decide) ?_
          refine xx_sub [1, 0] rfl ?_
          exact K74 n91 μ90 h
    refine xx_sub [1, 0] rfl ?_
    exact L74 _ _ _ h
set_option maxHeartbeats 4000000 in
set_option maxRecDepth 100000 in
theorem i_X12 {G : gp_} : mc_ yX12_init cX12_init 2 ({ frames := 2, cells := 8, slots := 3447, locals := 43 } : Room) G [] (.inr (11, [.null, .null, .null, .null, .int (iI 0), .int (iI 0), .null, .null, .null, .null, .int (iI 0), .int (iI 0), .int (iI 0), .int (iI 0), .int (iI 0), .int (iI 0), .int (iI 0), .int (iI 0), .int (iI 0), .int (iI 0)])) (S := Nat → Nat) (fun (q : Nat) (u : Nat → Nat) => wl_ 9 (cq_ q u) (ceM G (cq_ q u)) mM0_) := by
  refine mc_in (own := "UrnHeapModel") (by decide) rfl (fun _ => (Nat.le_of_ble_eq_true rfl)) (fun X q C NI E => ?_)
  have NI := NI rfl
  show wv_ G X [(q, .inr (11, [.null, .null, .null, .null, .int (iI 0), .int (iI 0), .null, .null, .null, .null, .int (iI 0), .int (iI 0), .int (iI 0), .int (iI 0), .int (iI 0), .int (iI 0), .int (iI 0), .int (iI 0), .int (iI 0), .int (iI 0)]))] 0 0 0 [(0, .ref q)] []
  refine xx_aload_n C 1 rfl 0 dX12_init_0 rfl rfl ?_
  refine xx_obj C 4 rfl ⟨w_1171, w_109, w_110⟩ ⟨(Nat.le_of_ble_eq_true rfl), (Nat.le_of_ble_eq_true rfl)⟩ dX12_init_1 ?_
  refine xx_aload_n C 5 rfl 0 dX12_init_4 rfl rfl ?_
  refine xx_sipush C 8 rfl dX12_init_5 (by decide) ?_
  refine xv_newi (z := 293) C 10 rfl (by decide) (by decide) w_132 ⟨(Nat.le_of_ble_eq_true rfl), (Nat.le_of_ble_eq_true rfl)⟩ dX12_init_8 (fun q8_1 => ?_)
  refine wv_eq (k2 := 1) (n2 := 293) rfl (Nat.eq_of_beq_eq_true rfl) (Nat.eq_of_beq_eq_true rfl) ?_
  show wv_ G X ([(q, .inr (11, [.null, .null, .null, .null, .int (iI 0), .int (iI 0), .null, .null, .null, .null, .int (iI 0), .int (iI 0), .int (iI 0), .int (iI 0), .int (iI 0), .int (iI 0), .int (iI 0), .int (iI 0), .int (iI 0), .int (iI 0)])), (q8_1, .inl (G.1.1 100, 293, .inl (fun _ => iI 0)))]) 1 293 10 [(0, .ref q)] [.ref q8_1, .ref q]
  refine xv_putF (fi := 0) C NI 13 rfl 0 (fs := [.null, .null, .null, .null, .int (iI 0), .int (iI 0), .null, .null, .null, .null, .int (iI 0), .int (iI 0), .int (iI 0), .int (iI 0), .int (iI 0), .int (iI 0), .int (iI 0), .int (iI 0), .int (iI 0), .int (iI 0)]) rfl rfl in_X12 tyX12 tyX12_ok nmX12 (by decide) (Nat.le_of_ble_eq_true rfl) ⟨rfl, rfl, rfl⟩ rfl rfl w_1179 dX12_init_10 ?_
  show wv_ G X ([(q, .inr (11, [.ref q8_1, .null, .null, .null, .int (iI 0), .int (iI 0), .null, .null, .null, .null, .int (iI 0), .int (iI 0), .int (iI 0), .int (iI 0), .int (iI 0), .int (iI 0), .int (iI 0), .int (iI 0), .int (iI 0), .int (iI 0)])), (q8_1, .inl (G.1.1 100, 293, .inl (fun _ => iI 0)))]) 1 293 13 [(0, .ref q)] []
  refine xx_aload_n C 14 rfl 0 dX12_init_13 rfl rfl ?_
  refine xx_sipush C 17 rfl dX12_init_14 (by decide) ?_
  refine xv_newi (z := 293) C 19 rfl (by decide) (by decide) w_132 ⟨(Nat.le_of_ble_eq_true rfl), (Nat.le_of_ble_eq_true rfl)⟩ dX12_init_17 (fun q17_2 => ?_)
  refine wv_eq (k2 := 2) (n2 := 586) rfl (Nat.eq_of_beq_eq_true rfl) (Nat.eq_of_beq_eq_true rfl) ?_
  show wv_ G X ([(q, .inr (11, [.ref q8_1, .null, .null, .null, .int (iI 0), .int (iI 0), .null, .null, .null, .null, .int (iI 0), .int (iI 0), .int (iI 0), .int (iI 0), .int (iI 0), .int (iI 0), .int (iI 0), .int (iI 0), .int (iI 0), .int (iI 0)])), (q8_1, .inl (G.1.1 100, 293, .inl (fun _ => iI 0))), (q17_2, .inl (G.1.1 100, 293, .inl (fun _ => iI 0)))]) 2 586 19 [(0, .ref q)] [.ref q17_2, .ref q]
  refine xv_putF (fi := 1) C NI 22 rfl 0 (fs := [.ref q8_1, .null, .null, .null, .int (iI 0), .int (iI 0), .null, .null, .null, .null, .int (iI 0), .int (iI 0), .int (iI 0), .int (iI 0), .int (iI 0), .int (iI 0), .int (iI 0), .int (iI 0), .int (iI 0), .int (iI 0)]) rfl rfl in_X12 tyX12 tyX12_ok nmX12 (by decide) (Nat.le_of_ble_eq_true rfl) ⟨rfl, rfl, rfl⟩ rfl rfl w_1180 dX12_init_19 ?_
  show wv_ G X ([(q, .inr (11, [.ref q8_1, .ref q17_2, .null, .null, .int (iI 0), .int (iI 0), .null, .null, .null, .null, .int (iI 0), .int (iI 0), .int (iI 0), .int (iI 0), .int (iI 0), .int (iI 0), .int (iI 0), .int (iI 0), .int (iI 0), .int (iI 0)])), (q8_1, .inl (G.1.1 100, 293, .inl (fun _ => iI 0))), (q17_2, .inl (G.1.1 100, 293, .inl (fun _ => iI 0)))]) 2 586 22 [(0, .ref q)] []
  refine xx_aload_n C 23 rfl 0 dX12_init_22 rfl rfl ?_
  refine xx_sipush C 26 rfl dX12_init_23 (by decide) ?_
  refine xv_newi (z := 293) C 28 rfl (by decide) (by decide) w_132 ⟨(Nat.le_of_ble_eq_true rfl), (Nat.le_of_ble_eq_true rfl)⟩ dX12_init_26 (fun q26_3 => ?_)
  refine wv_eq (k2 := 3) (n2 := 879) rfl (Nat.eq_of_beq_eq_true rfl) (Nat.eq_of_beq_eq_true rfl) ?_
  show wv_ G X ([(q, .inr (11, [.ref q8_1, .ref q17_2, .null, .null, .int (iI 0), .int (iI 0), .null, .null, .null, .null, .int (iI 0), .int (iI 0), .int (iI 0), .int (iI 0), .int (iI 0), .int (iI 0), .int (iI 0), .int (iI 0), .int (iI 0), .int (iI 0)])), (q8_1, .inl (G.1.1 100, 293, .inl (fun _ => iI 0))), (q17_2, .inl (G.1.1 100, 293, .inl (fun _ => iI 0))), (q26_3, .inl (G.1.1 100, 293, .inl (fun _ => iI 0)))]) 3 879 28 [(0, .ref q)] [.ref q26_3, .ref q]
  refine xv_putF (fi := 2) C NI 31 rfl 0 (fs := [.ref q8_1, .ref q17_2, .null, .null, .int (iI 0), .int (iI 0), .null, .null, .null, .null, .int (iI 0), .int (iI 0), .int (iI 0), .int (iI 0), .int (iI 0), .int (iI 0), .int (iI 0), .int (iI 0), .int (iI 0), .int (iI 0)]) rfl rfl in_X12 tyX12 tyX12_ok nmX12 (by decide) (Nat.le_of_ble_eq_true rfl) ⟨rfl, rfl, rfl⟩ rfl rfl w_1181 dX12_init_28 ?_
  show wv_ G X ([(q, .inr (11, [.ref q8_1, .ref q17_2, .ref q26_3, .null, .int (iI 0), .int (iI 0), .null, .null, .null, .null, .int (iI 0), .int (iI 0), .int (iI 0), .int (iI 0), .int (iI 0), .int (iI 0), .int (iI 0), .int (iI 0), .int (iI 0), .int (iI 0)])), (q8_1, .inl (G.1.1 100, 293, .inl (fun _ => iI 0))), (q17_2, .inl (G.1.1 100, 293, .inl (fun _ => iI 0))), (q26_3, .inl (G.1.1 100, 293, .inl (fun _ => iI 0)))]) 3 879 31 [(0, .ref q)] []
  refine xx_aload_n C 32 rfl 0 dX12_init_31 rfl rfl ?_
  refine xx_sipush C 35 rfl dX12_init_32 (by decide) ?_
  refine xv_newi (z := 2344) C 37 rfl (by decide) (by decide) w_132 ⟨(Nat.le_of_ble_eq_true rfl), (Nat.le_of_ble_eq_true rfl)⟩ dX12_init_35 (fun q35_4 => ?_)
  refine wv_eq (k2 := 4) (n2 := 3223) rfl (Nat.eq_of_beq_eq_true rfl) (Nat.eq_of_beq_eq_true rfl) ?_
  show wv_ G X ([(q, .inr (11, [.ref q8_1, .ref q17_2, .ref q26_3, .null, .int (iI 0), .int (iI 0), .null, .null, .null, .null, .int (iI 0), .int (iI 0), .int (iI 0), .int (iI 0), .int (iI 0), .int (iI 0), .int (iI 0), .int (iI 0), .int (iI 0), .int (iI 0)])), (q8_1, .inl (G.1.1 100, 293, .inl (fun _ => iI 0))), (q17_2, .inl (G.1.1 100, 293, .inl (fun _ => iI 0))), (q26_3, .inl (G.1.1 100, 293, .inl (fun _ => iI 0))), (q35_4, .inl (G.1.1 100, 2344, .inl (fun _ => iI 0)))]) 4 3223 37 [(0, .ref q)] [.ref q35_4, .ref q]
  refine xv_putF (fi := 3) C NI 40 rfl 0 (fs := [.ref q8_1, .ref q17_2, .ref q26_3, .null, .int (iI 0), .int (iI 0), .null, .null, .null, .null, .int (iI 0), .int (iI 0), .int (iI 0), .int (iI 0), .int (iI 0), .int (iI 0), .int (iI 0), .int (iI 0), .int (iI 0), .int (iI 0)]) rfl rfl in_X12 tyX12 tyX12_ok nmX12 (by decide) (Nat.le_of_ble_eq_true rfl) ⟨rfl, rfl, rfl⟩ rfl rfl w_1182 dX12_init_37 ?_
  show wv_ G X ([(q, .inr (11, [.ref q8_1, .ref q17_2, .ref q26_3, .ref q35_4, .int (iI 0), .int (iI 0), .null, .null, .null, .null, .int (iI 0), .int (iI 0), .int (iI 0), .int (iI 0), .int (iI 0), .int (iI 0), .int (iI 0), .int (iI 0), .int (iI 0), .int (iI 0)])), (q8_1, .inl (G.1.1 100, 293, .inl (fun _ => iI 0))), (q17_2, .inl (G.1.1 100, 293, .inl (fun _ => iI 0))), (q26_3, .inl (G.1.1 100, 293, .inl (fun _ => iI 0))), (q35_4, .inl (G.1.1 100, 2344, .inl (fun _ => iI 0)))]) 4 3223 40 [(0, .ref q)] []
  refine xx_aload_n C 41 rfl 0 dX12_init_40 rfl rfl ?_
  refine xx_bipush C 43 rfl dX12_init_41 (by decide) ?_
  refine xv_newi (z := 60) C 45 rfl (by decide) (by decide) w_132 ⟨(Nat.le_of_ble_eq_true rfl), (Nat.le_of_ble_eq_true rfl)⟩ dX12_init_43 (fun q43_5 => ?_)
  refine wv_eq (k2 := 5) (n2 := 3283) rfl (Nat.eq_of_beq_eq_true rfl) (Nat.eq_of_beq_eq_true rfl) ?_
  show wv_ G X ([(q, .inr (11, [.ref q8_1, .ref q17_2, .ref q26_3, .ref q35_4, .int (iI 0), .int (iI 0), .null, .null, .null, .null, .int (iI 0), .int (iI 0), .int (iI 0), .int (iI 0), .int (iI 0), .int (iI 0), .int (iI 0), .int (iI 0), .int (iI 0), .int (iI 0)])), (q8_1, .inl (G.1.1 100, 293, .inl (fun _ => iI 0))), (q17_2, .inl (G.1.1 100, 293, .inl (fun _ => iI 0))), (q26_3, .inl (G.1.1 100, 293, .inl (fun _ => iI 0))), (q35_4, .inl (G.1.1 100, 2344, .inl (fun _ => iI 0))), (q43_5, .inl (G.1.1 100, 60, .inl (fun _ => iI 0)))]) 5 3283 45 [(0, .ref q)] [.ref q43_5, .ref q]
  refine xv_putF (fi := 6) C NI 48 rfl 0 (fs := [.ref q8_1, .ref q17_2, .ref q26_3, .ref q35_4, .int (iI 0), .int (iI 0), .null, .null, .null, .null, .int (iI 0), .int (iI 0), .int (iI 0), .int (iI 0), .int (iI 0), .int (iI 0), .int (iI 0), .int (iI 0), .int (iI 0), .int (iI 0)]) rfl rfl in_X12 tyX12 tyX12_ok nmX12 (by decide) (Nat.le_of_ble_eq_true rfl) ⟨rfl, rfl, rfl⟩ rfl rfl w_1185 dX12_init_45 ?_
  show wv_ G X ([(q, .inr (11, [.ref q8_1, .ref q17_2, .ref q26_3, .ref q35_4, .int (iI 0), .int (iI 0), .ref q43_5, .null, .null, .null, .int (iI 0), .int (iI 0), .int (iI 0), .int (iI 0), .int (iI 0), .int (iI 0), .int (iI 0), .int (iI 0), .int (iI 0), .int (iI 0)])), (q8_1, .inl (G.1.1 100, 293, .inl (fun _ => iI 0))), (q17_2, .inl (G.1.1 100, 293, .inl (fun _ => iI 0))), (q26_3, .inl (G.1.1 100, 293, .inl (fun _ => iI 0))), (q35_4, .inl (G.1.1 100, 2344, .inl (fun _ => iI 0))), (q43_5, .inl (G.1.1 100, 60, .inl (fun _ => iI 0)))]) 5 3283 48 [(0, .ref q)] []
  refine xx_aload_n C 49 rfl 0 dX12_init_48 rfl rfl ?_
  refine xx_bipush C 51 rfl dX12_init_49 (by decide) ?_
  refine xv_newi (z := 80) C 53 rfl (by decide) (by decide) w_132 ⟨(Nat.le_of_ble_eq_true rfl), (Nat.le_of_ble_eq_true rfl)⟩ dX12_init_51 (fun q51_6 => ?_)
  refine wv_eq (k2 := 6) (n2 := 3363) rfl (Nat.eq_of_beq_eq_true rfl) (Nat.eq_of_beq_eq_true rfl) ?_
  show wv_ G X ([(q, .inr (11, [.ref q8_1, .ref q17_2, .ref q26_3, .ref q35_4, .int (iI 0), .int (iI 0), .ref q43_5, .null, .null, .null, .int (iI 0), .int (iI 0), .int (iI 0), .int (iI 0), .int (iI 0), .int (iI 0), .int (iI 0), .int (iI 0), .int (iI 0), .int (iI 0)])), (q8_1, .inl (G.1.1 100, 293, .inl (fun _ => iI 0))), (q17_2, .inl (G.1.1 100, 293, .inl (fun _ => iI 0))), (q26_3, .inl (G.1.1 100, 293, .inl (fun _ => iI 0))), (q35_4, .inl (G.1.1 100, 2344, .inl (fun _ => iI 0))), (q43_5, .inl (G.1.1 100, 60, .inl (fun _ => iI 0))), (q51_6, .inl (G.1.1 100, 80, .inl (fun _ => iI 0)))]) 6 3363 53 [(0, .ref q)] [.ref q51_6, .ref q]
  refine xv_putF (fi := 7) C NI 56 rfl 0 (fs := [.ref q8_1, .ref q17_2, .ref q26_3, .ref q35_4, .int (iI 0), .int (iI 0), .ref q43_5, .null, .null, .null, .int (iI 0), .int (iI 0), .int (iI 0), .int (iI 0), .int (iI 0), .int (iI 0), .int (iI 0), .int (iI 0), .int (iI 0), .int (iI 0)]) rfl rfl in_X12 tyX12 tyX12_ok nmX12 (by decide) (Nat.le_of_ble_eq_true rfl) ⟨rfl, rfl, rfl⟩ rfl rfl w_1186 dX12_init_53 ?_
  show wv_ G X ([(q, .inr (11, [.ref q8_1, .ref q17_2, .ref q26_3, .ref q35_4, .int (iI 0), .int (iI 0), .ref q43_5, .ref q51_6, .null, .null, .int (iI 0), .int (iI 0), .int (iI 0), .int (iI 0), .int (iI 0), .int (iI 0), .int (iI 0), .int (iI 0), .int (iI 0), .int (iI 0)])), (q8_1, .inl (G.1.1 100, 293, .inl (fun _ => iI 0))), (q17_2, .inl (G.1.1 100, 293, .inl (fun _ => iI 0))), (q26_3, .inl (G.1.1 100, 293, .inl (fun _ => iI 0))), (q35_4, .inl (G.1.1 100, 2344, .inl (fun _ => iI 0))), (q43_5, .inl (G.1.1 100, 60, .inl (fun _ => iI 0))), (q51_6, .inl (G.1.1 100, 80, .inl (fun _ => iI 0)))]) 6 3363 56 [(0, .ref q)] []
  refine xx_aload_n C 57 rfl 0 dX12_init_56 rfl rfl ?_
  refine xx_bipush C 59 rfl dX12_init_57 (by decide) ?_
  refine xv_newi (z := 60) C 61 rfl (by decide) (by decide) w_132 ⟨(Nat.le_of_ble_eq_true rfl), (Nat.le_of_ble_eq_true rfl)⟩ dX12_init_59 (fun q59_7 => ?_)
  refine wv_eq (k2 := 7) (n2 := 3423) rfl (Nat.eq_of_beq_eq_true rfl) (Nat.eq_of_beq_eq_true rfl) ?_
  show wv_ G X ([(q, .inr (11, [.ref q8_1, .ref q17_2, .ref q26_3, .ref q35_4, .int (iI 0), .int (iI 0), .ref q43_5, .ref q51_6, .null, .null, .int (iI 0), .int (iI 0), .int (iI 0), .int (iI 0), .int (iI 0), .int (iI 0), .int (iI 0), .int (iI 0), .int (iI 0), .int (iI 0)])), (q8_1, .inl (G.1.1 100, 293, .inl (fun _ => iI 0))), (q17_2, .inl (G.1.1 100, 293, .inl (fun _ => iI 0))), (q26_3, .inl (G.1.1 100, 293, .inl (fun _ => iI 0))), (q35_4, .inl (G.1.1 100, 2344, .inl (fun _ => iI 0))), (q43_5, .inl (G.1.1 100, 60, .inl (fun _ => iI 0))), (q51_6, .inl (G.1.1 100, 80, .inl (fun _ => iI 0))), (q59_7, .inl (G.1.1 100, 60, .inl (fun _ => iI 0)))]) 7 3423 61 [(0, .ref q)] [.ref q59_7, .ref q]
  refine xv_putF (fi := 8) C NI 64 rfl 0 (fs := [.ref q8_1, .ref q17_2, .ref q26_3, .ref q35_4, .int (iI 0), .int (iI 0), .ref q43_5, .ref q51_6, .null, .null, .int (iI 0), .int (iI 0), .int (iI 0), .int (iI 0), .int (iI 0), .int (iI 0), .int (iI 0), .int (iI 0), .int (iI 0), .int (iI 0)]) rfl rfl in_X12 tyX12 tyX12_ok nmX12 (by decide) (Nat.le_of_ble_eq_true rfl) ⟨rfl, rfl, rfl⟩ rfl rfl w_1187 dX12_init_61 ?_
  show wv_ G X ([(q, .inr (11, [.ref q8_1, .ref q17_2, .ref q26_3, .ref q35_4, .int (iI 0), .int (iI 0), .ref q43_5, .ref q51_6, .ref q59_7, .null, .int (iI 0), .int (iI 0), .int (iI 0), .int (iI 0), .int (iI 0), .int (iI 0), .int (iI 0), .int (iI 0), .int (iI 0), .int (iI 0)])), (q8_1, .inl (G.1.1 100, 293, .inl (fun _ => iI 0))), (q17_2, .inl (G.1.1 100, 293, .inl (fun _ => iI 0))), (q26_3, .inl (G.1.1 100, 293, .inl (fun _ => iI 0))), (q35_4, .inl (G.1.1 100, 2344, .inl (fun _ => iI 0))), (q43_5, .inl (G.1.1 100, 60, .inl (fun _ => iI 0))), (q51_6, .inl (G.1.1 100, 80, .inl (fun _ => iI 0))), (q59_7, .inl (G.1.1 100, 60, .inl (fun _ => iI 0)))]) 7 3423 64 [(0, .ref q)] []
  refine xx_aload_n C 65 rfl 0 dX12_init_64 rfl rfl ?_
  refine xx_bipush C 67 rfl dX12_init_65 (by decide) ?_
  refine xv_newi (z := 24) C 69 rfl (by decide) (by decide) w_132 ⟨(Nat.le_of_ble_eq_true rfl), (Nat.le_of_ble_eq_true rfl)⟩ dX12_init_67 (fun q67_8 => ?_)
  refine wv_eq (k2 := 8) (n2 := 3447) rfl (Nat.eq_of_beq_eq_true rfl) (Nat.eq_of_beq_eq_true rfl) ?_
  show wv_ G X ([(q, .inr (11, [.ref q8_1, .ref q17_2, .ref q26_3, .ref q35_4, .int (iI 0), .int (iI 0), .ref q43_5, .ref q51_6, .ref q59_7, .null, .int (iI 0), .int (iI 0), .int (iI 0), .int (iI 0), .int (iI 0), .int (iI 0), .int (iI 0), .int (iI 0), .int (iI 0), .int (iI 0)])), (q8_1, .inl (G.1.1 100, 293, .inl (fun _ => iI 0))), (q17_2, .inl (G.1.1 100, 293, .inl (fun _ => iI 0))), (q26_3, .inl (G.1.1 100, 293, .inl (fun _ => iI 0))), (q35_4, .inl (G.1.1 100, 2344, .inl (fun _ => iI 0))), (q43_5, .inl (G.1.1 100, 60, .inl (fun _ => iI 0))), (q51_6, .inl (G.1.1 100, 80, .inl (fun _ => iI 0))), (q59_7, .inl (G.1.1 100, 60, .inl (fun _ => iI 0))), (q67_8, .inl (G.1.1 100, 24, .inl (fun _ => iI 0)))]) 8 3447 69 [(0, .ref q)] [.ref q67_8, .ref q]
  refine xv_putF (fi := 9) C NI 72 rfl 0 (fs := [.ref q8_1, .ref q17_2, .ref q26_3, .ref q35_4, .int (iI 0), .int (iI 0), .ref q43_5, .ref q51_6, .ref q59_7, .null, .int (iI 0), .int (iI 0), .int (iI 0), .int (iI 0), .int (iI 0), .int (iI 0), .int (iI 0), .int (iI 0), .int (iI 0), .int (iI 0)]) rfl rfl in_X12 tyX12 tyX12_ok nmX12 (by decide) (Nat.le_of_ble_eq_true rfl) ⟨rfl, rfl, rfl⟩ rfl rfl w_1188 dX12_init_69 ?_
  show wv_ G X ([(q, .inr (11, [.ref q8_1, .ref q17_2, .ref q26_3, .ref q35_4, .int (iI 0), .int (iI 0), .ref q43_5, .ref q51_6, .ref q59_7, .ref q67_8, .int (iI 0), .int (iI 0), .int (iI 0), .int (iI 0), .int (iI 0), .int (iI 0), .int (iI 0), .int (iI 0), .int (iI 0), .int (iI 0)])), (q8_1, .inl (G.1.1 100, 293, .inl (fun _ => iI 0))), (q17_2, .inl (G.1.1 100, 293, .inl (fun _ => iI 0))), (q26_3, .inl (G.1.1 100, 293, .inl (fun _ => iI 0))), (q35_4, .inl (G.1.1 100, 2344, .inl (fun _ => iI 0))), (q43_5, .inl (G.1.1 100, 60, .inl (fun _ => iI 0))), (q51_6, .inl (G.1.1 100, 80, .inl (fun _ => iI 0))), (q59_7, .inl (G.1.1 100, 60, .inl (fun _ => iI 0))), (q67_8, .inl (G.1.1 100, 24, .inl (fun _ => iI 0)))]) 8 3447 72 [(0, .ref q)] []
  refine xx_mu (N := 9) (ad' := cq_ q (fun j => ([q, q8_1, q17_2, q26_3, q35_4, q43_5, q51_6, q59_7, q67_8] : List Nat).getD j 0)) (ce' := ceM G (cq_ q (fun j => ([q, q8_1, q17_2, q26_3, q35_4, q43_5, q51_6, q59_7, q67_8] : List Nat).getD j 0))) (μ' := mz_) (fun k hk => by rcases (show k = 0 ∨ k = 1 ∨ k = 2 ∨ k = 3 ∨ k = 4 ∨ k = 5 ∨ k = 6 ∨ k = 7 ∨ k = 8 by omega) with rfl | rfl | rfl | rfl | rfl | rfl | rfl | rfl | rfl <;> exact ⟨rfl, rfl⟩) ?_
  exact k_X12i (ad := cq_ q (fun j => ([q, q8_1, q17_2, q26_3, q35_4, q43_5, q51_6, q59_7, q67_8] : List Nat).getD j 0)) C E (fun j => ([q, q8_1, q17_2, q26_3, q35_4, q43_5, q51_6, q59_7, q67_8] : List Nat).getD j 0) mM0_ rfl mz_ mM0_ok

