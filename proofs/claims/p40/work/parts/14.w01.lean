/-! the law (written by wip/gen40/lawmain.py) -/
theorem w_1151 : Cond.methodLink "UrnHeapLaw" 60 yL_isKept ∈ gT_ := gm_ 1151 (by decide +kernel)
theorem w_1181 : Cond.methodLink "UrnHeapLaw" 64 yL_isRound ∈ gT_ := gm_ 1181 (by decide +kernel)
theorem w_400 : Cond.methodLink "UrnHeapLaw" 52 yL_does ∈ gT_ := gm_ 400 (by decide +kernel)
theorem w_1009 : Cond.methodLink "UrnHeapLaw" 56 yL_isWhole ∈ gT_ := gm_ 1009 (by decide +kernel)
theorem w_53 : Cond.instanceMethod yX11_init ∈ gT_ := gm_ 53 (by decide +kernel)
theorem w_52 : Cond.methodLink "UrnHeapLaw" 40 yX11_init ∈ gT_ := gm_ 52 (by decide +kernel)
theorem w_50 : Cond.classLink "UrnHeapLaw" 25 "UrnHeap" ∈ gT_ := gm_ 50 (by decide +kernel)
theorem w_51 : Cond.instantiable "UrnHeap" 8 ∈ gT_ := gm_ 51 (by decide +kernel)
theorem w_1184 : Cond.arrayClass .long ∈ gT_ := gm_ 1184 (by decide +kernel)
theorem gmr_ (i : Nat) {w : Cond} (h1 : lw_tbl[i]? = some w) (h2 : goodWord w = true) : w ∈ gT_ := List.mem_append_left _ (List.mem_filter.mpr ⟨List.mem_of_getElem? h1, h2⟩)
theorem gmr_g : goodWord (Cond.code yL_isWhole cL_isWhole 21 (some .boolean)) = true := rfl
set_option maxRecDepth 100000 in
theorem w_1011 : Cond.code yL_isWhole cL_isWhole 21 (some .boolean) ∈ gT_ := gmr_ 1011 (by rfl) gmr_g
theorem w_1010 : Cond.static yL_isWhole ∈ gT_ := gm_ 1010 (by decide +kernel)
theorem w_1153 : Cond.code yL_isKept cL_isKept 6 (some .boolean) ∈ gT_ := gm_ 1153 (by decide +kernel)
theorem w_1152 : Cond.static yL_isKept ∈ gT_ := gm_ 1152 (by decide +kernel)
theorem w_1183 : Cond.code yL_isRound cL_isRound 7 (some .boolean) ∈ gT_ := gm_ 1183 (by decide +kernel)
theorem w_1182 : Cond.static yL_isRound ∈ gT_ := gm_ 1182 (by decide +kernel)
theorem w_54 : Cond.code yX11_init cX11_init 3 none ∈ gT_ := gm_ 54 (by decide +kernel)
theorem ca_L_isWhole : ca_ yL_isWhole cL_isWhole 21 (some .boolean) 1 := ⟨w_24, w_1011, by decide, by decide, by decide +kernel⟩
theorem cs_L_isWhole : Cond.static yL_isWhole ∈ gT_ := w_1010
theorem ca_L_isKept : ca_ yL_isKept cL_isKept 6 (some .boolean) 3 := ⟨w_24, w_1153, by decide, by decide, by decide +kernel⟩
theorem cs_L_isKept : Cond.static yL_isKept ∈ gT_ := w_1152
theorem ca_L_isRound : ca_ yL_isRound cL_isRound 7 (some .boolean) 1 := ⟨w_24, w_1183, by decide, by decide, by decide +kernel⟩
theorem cs_L_isRound : Cond.static yL_isRound ∈ gT_ := w_1182
theorem ca_X11_init : ca_ yX11_init cX11_init 3 none 0 := ⟨w_25, w_54, by decide, by decide, by decide +kernel⟩
theorem dL_law_0 : decode cL_law 0 = .ok (.new 25, 3) := by decide +kernel
theorem dL_law_3 : decode cL_law 3 = .ok (.dup, 1) := by decide +kernel
theorem dL_law_4 : decode cL_law 4 = .ok (.invokespecial 40, 3) := by decide +kernel
theorem dL_law_7 : decode cL_law 7 = .ok (.astore_n 1, 1) := by decide +kernel
theorem dL_law_8 : decode cL_law 8 = .ok (.bipush 60, 2) := by decide +kernel
theorem dL_law_10 : decode cL_law 10 = .ok (.newarray .long, 2) := by decide +kernel
theorem dL_law_12 : decode cL_law 12 = .ok (.astore_n 2, 1) := by decide +kernel
theorem dL_law_13 : decode cL_law 13 = .ok (.iconst 0, 1) := by decide +kernel
theorem dL_law_14 : decode cL_law 14 = .ok (.istore_n 3, 1) := by decide +kernel
theorem dL_law_15 : decode cL_law 15 = .ok (.aload_n 2, 1) := by decide +kernel
theorem dL_law_16 : decode cL_law 16 = .ok (.iload_n 3, 1) := by decide +kernel
theorem dL_law_17 : decode cL_law 17 = .ok (.aload_n 1, 1) := by decide +kernel
theorem dL_law_18 : decode cL_law 18 = .ok (.invokestatic 41, 3) := by decide +kernel
theorem dL_law_21 : decode cL_law 21 = .ok (.lastore, 1) := by decide +kernel
theorem dL_law_22 : decode cL_law 22 = .ok (.iconst 0, 1) := by decide +kernel
theorem dL_law_23 : decode cL_law 23 = .ok (.istore 4, 2) := by decide +kernel
theorem dL_law_25 : decode cL_law 25 = .ok (.iconst 0, 1) := by decide +kernel
theorem dL_law_26 : decode cL_law 26 = .ok (.istore 5, 2) := by decide +kernel
theorem dL_law_28 : decode cL_law 28 = .ok (.iload 5, 2) := by decide +kernel
theorem dL_law_30 : decode cL_law 30 = .ok (.bipush 50, 2) := by decide +kernel
theorem dL_law_32 : decode cL_law 32 = .ok (.if_icmp .ge 106, 3) := by decide +kernel
theorem dL_law_35 : decode cL_law 35 = .ok (.aload_n 1, 1) := by decide +kernel
theorem dL_law_36 : decode cL_law 36 = .ok (.invokestatic 41, 3) := by decide +kernel
theorem dL_law_39 : decode cL_law 39 = .ok (.lstore 6, 2) := by decide +kernel
theorem dL_law_41 : decode cL_law 41 = .ok (.aload_n 1, 1) := by decide +kernel
theorem dL_law_42 : decode cL_law 42 = .ok (.bipush 15, 2) := by decide +kernel
theorem dL_law_44 : decode cL_law 44 = .ok (.invokevirtual 45, 3) := by decide +kernel
theorem dL_law_47 : decode cL_law 47 = .ok (.istore 8, 2) := by decide +kernel
theorem dL_law_49 : decode cL_law 49 = .ok (.aload_n 0, 1) := by decide +kernel
theorem dL_law_50 : decode cL_law 50 = .ok (.iload 4, 2) := by decide +kernel
theorem dL_law_52 : decode cL_law 52 = .ok (.aload_n 0, 1) := by decide +kernel
theorem dL_law_53 : decode cL_law 53 = .ok (.iload 4, 2) := by decide +kernel
theorem dL_law_55 : decode cL_law 55 = .ok (.bipush 24, 2) := by decide +kernel
theorem dL_law_57 : decode cL_law 57 = .ok (.invokestatic 48, 3) := by decide +kernel
theorem dL_law_60 : decode cL_law 60 = .ok (.aload_n 1, 1) := by decide +kernel
theorem dL_law_61 : decode cL_law 61 = .ok (.invokestatic 52, 3) := by decide +kernel
theorem dL_law_64 : decode cL_law 64 = .ok (.istore 9, 2) := by decide +kernel
theorem dL_law_66 : decode cL_law 66 = .ok (.iinc 4 5, 3) := by decide +kernel
theorem dL_law_69 : decode cL_law 69 = .ok (.aload_n 1, 1) := by decide +kernel
theorem dL_law_70 : decode cL_law 70 = .ok (.invokestatic 56, 3) := by decide +kernel
theorem dL_law_73 : decode cL_law 73 = .ok (.ifCond .ne 5, 3) := by decide +kernel
theorem dL_law_76 : decode cL_law 76 = .ok (.iconst 0, 1) := by decide +kernel
theorem dL_law_77 : decode cL_law 77 = .ok (.ireturn, 1) := by decide +kernel
theorem dL_law_78 : decode cL_law 78 = .ok (.iload 9, 2) := by decide +kernel
theorem dL_law_80 : decode cL_law 80 = .ok (.ifCond .ge 42, 3) := by decide +kernel
theorem dL_law_83 : decode cL_law 83 = .ok (.iload 9, 2) := by decide +kernel
theorem dL_law_85 : decode cL_law 85 = .ok (.bipush (-15), 2) := by decide +kernel
theorem dL_law_87 : decode cL_law 87 = .ok (.if_icmp .eq 35, 3) := by decide +kernel
theorem dL_law_90 : decode cL_law 90 = .ok (.aload_n 1, 1) := by decide +kernel
theorem dL_law_91 : decode cL_law 91 = .ok (.invokestatic 41, 3) := by decide +kernel
theorem dL_law_94 : decode cL_law 94 = .ok (.lload 6, 2) := by decide +kernel
theorem dL_law_96 : decode cL_law 96 = .ok (.lcmp, 1) := by decide +kernel
theorem dL_law_97 : decode cL_law 97 = .ok (.ifCond .ne 23, 3) := by decide +kernel
theorem dL_law_100 : decode cL_law 100 = .ok (.aload_n 1, 1) := by decide +kernel
theorem dL_law_101 : decode cL_law 101 = .ok (.bipush 15, 2) := by decide +kernel
theorem dL_law_103 : decode cL_law 103 = .ok (.invokevirtual 45, 3) := by decide +kernel
theorem dL_law_106 : decode cL_law 106 = .ok (.iload 8, 2) := by decide +kernel
theorem dL_law_108 : decode cL_law 108 = .ok (.if_icmp .ne 12, 3) := by decide +kernel
theorem dL_law_111 : decode cL_law 111 = .ok (.aload_n 1, 1) := by decide +kernel
theorem dL_law_112 : decode cL_law 112 = .ok (.bipush 14, 2) := by decide +kernel
theorem dL_law_114 : decode cL_law 114 = .ok (.invokevirtual 45, 3) := by decide +kernel
theorem dL_law_117 : decode cL_law 117 = .ok (.ifCond .eq 15, 3) := by decide +kernel
theorem dL_law_120 : decode cL_law 120 = .ok (.iconst 0, 1) := by decide +kernel
theorem dL_law_121 : decode cL_law 121 = .ok (.ireturn, 1) := by decide +kernel
theorem dL_law_122 : decode cL_law 122 = .ok (.iinc 3 1, 3) := by decide +kernel
theorem dL_law_125 : decode cL_law 125 = .ok (.aload_n 2, 1) := by decide +kernel
theorem dL_law_126 : decode cL_law 126 = .ok (.iload_n 3, 1) := by decide +kernel
theorem dL_law_127 : decode cL_law 127 = .ok (.aload_n 1, 1) := by decide +kernel
theorem dL_law_128 : decode cL_law 128 = .ok (.invokestatic 41, 3) := by decide +kernel
theorem dL_law_131 : decode cL_law 131 = .ok (.lastore, 1) := by decide +kernel
theorem dL_law_132 : decode cL_law 132 = .ok (.iinc 5 1, 3) := by decide +kernel
theorem dL_law_135 : decode cL_law 135 = .ok (.goto (-107), 3) := by decide +kernel
theorem dL_law_138 : decode cL_law 138 = .ok (.aload_n 1, 1) := by decide +kernel
theorem dL_law_139 : decode cL_law 139 = .ok (.aload_n 2, 1) := by decide +kernel
theorem dL_law_140 : decode cL_law 140 = .ok (.iload_n 3, 1) := by decide +kernel
theorem dL_law_141 : decode cL_law 141 = .ok (.invokestatic 60, 3) := by decide +kernel
theorem dL_law_144 : decode cL_law 144 = .ok (.ifCond .eq 14, 3) := by decide +kernel
theorem dL_law_147 : decode cL_law 147 = .ok (.aload_n 1, 1) := by decide +kernel
theorem dL_law_148 : decode cL_law 148 = .ok (.invokestatic 64, 3) := by decide +kernel
theorem dL_law_151 : decode cL_law 151 = .ok (.ifCond .eq 7, 3) := by decide +kernel
theorem dL_law_154 : decode cL_law 154 = .ok (.iconst 1, 1) := by decide +kernel
theorem dL_law_155 : decode cL_law 155 = .ok (.goto 4, 3) := by decide +kernel
theorem dL_law_158 : decode cL_law 158 = .ok (.iconst 0, 1) := by decide +kernel
theorem dL_law_159 : decode cL_law 159 = .ok (.ireturn, 1) := by decide +kernel
/-- a row of sixty longs -/
def eJ_ (G : gp_) (S : Int → Int) : va_E := .inl (G.1.1 104, 60, .inr (.inl (fun j => iL (S (j : Nat)))))
section XL
variable {G : gp_} {X : ct_} {ws : va_W} {k n pc : Nat} {lv : List (Nat × Value)} {st : List Value} {cc : ByteArray} {own : String} {rm : Room} {ret : Option FieldType} {nl : Nat}
theorem xv_newl (C : cx_ G X cc own rm ret nl) (p1 : Nat) (hp : pc + 2 = p1) (harr : Cond.arrayClass .long ∈ gT_) (hb : k + 1 ≤ rm.cells ∧ n + 60 ≤ rm.slots) (d : decode cc pc = .ok (.newarray .long, 2)) (kk : ∀ x, wv_ G X (ws ++ [(x, eJ_ G (fun _ => 0))]) (k + 1) (n + 60) p1 lv (.ref x :: st)) : wv_ G X ws k n pc lv (.int (iI 60) :: st) := by
  obtain ⟨p, l, e9, R, s, m, args, below, meth, c, Q, A, nL⟩ := X
  intro H locs ls hP hD hS hl
  rw [wl_L] at hP hD
  subst hp
  have hR' : R = rm := C.2.2.2.2.2.2.2.2.2.1
  have hK := C.2.2.2.2.1
  refine va_newa (atype := .long) (ty := .long) C.1 C.2.1 (C.2.2.1 _ harr) rfl hK hP hD hS C.2.2.2.2.2.1 (N' := 60) (a0 := (60, .inr (.inl (fun _ => iL 0)))) (fun cA => rfl) (by decide) (by decide) (by decide) (by rw [hR']; exact hb.1) (by rw [hR']; exact hb.2) d (fun x cA H1 hK1 hP1 hD1 hS1 => ?_)
  have e1 : s.vm.findClass ("[" ++ (FieldType.long).toString) = some (G.1.1 104) := (hK.2 4 _ rfl).2
  have e2 : s.vm.findClass ("[" ++ (FieldType.long).toString) = some cA := (hK1.2 5 _ rfl).2
  have e3 : cA = G.1.1 104 := Option.some.inj (e2.symm.trans e1)
  subst e3
  exact kk x H1 locs ls (by rw [wl_L]; exact hP1) (by rw [wl_L]; exact hD1) hS1 hl
theorem set_l {α : Type} {w : List α} {x y : α} {i : Nat} (h : w.length = i) : (w ++ [x]).set i y = w ++ [y] := by
  subst h
  rw [List.set_append_right _ _ (Nat.le_refl _), Nat.sub_self]
  rfl
theorem xv_last (C : cx_ G X cc own rm ret nl) (p1 : Nat) (hp : pc + 1 = p1) {w : va_W} {x : Nat} {S : Int → Int} {i v : Int} (h0 : 0 ≤ i) (h1 : i < 60) (d : decode cc pc = .ok (.lastore, 1)) (kk : wv_ G X (w ++ [(x, eJ_ G (ur_ S i v))]) k n p1 lv st) : wv_ G X (w ++ [(x, eJ_ G S)]) k n pc lv (.long (iL v) :: .int (iI i) :: .ref x :: st) := by
  obtain ⟨p, l, e9, R, s, m, args, below, meth, c, Q, A, nL⟩ := X
  intro H locs ls hP hD hS hl
  rw [wl_L] at hP hD
  subst hp
  refine va_last (n := 60) (f := fun j => iL (S (j : Nat))) C.1 C.2.1 C.2.2.2.2.1 hP hD hS w.length 4 (yapp_r (k := 0) rfl) rfl (iI_in h0 (n := 60) (by omega) (by decide)) d (fun H1 locs1 hP1 hD1 hS1 => ?_)
  have e1 : (vp_updL (fun j : Nat => iL (S (j : Int))) (iI i).toNatClampNeg (iL v)) = fun j : Nat => iL (ur_ S i v (j : Int)) := by
    funext j
    rw [iI_clamp (by omega)]
    unfold vp_updL ur_
    by_cases hj : j = i.toNat
    · rw [if_pos hj, if_pos (by omega)]
    · rw [if_neg hj, if_neg (by omega)]
  rw [e1, set_l rfl] at hP1 hD1
  exact kk H1 locs1 ls (by rw [wl_L]; exact hP1) (by rw [wl_L]; exact hD1) hS1 hl
end XL
/-- the relation of a run of calls: behind n calls, of which made were changes: the program's memory, the sums -/
abbrev IV_T : Type := Nat → Nat → mu_T → (Int → Int) → Prop
def lh_s (IV : IV_T) : Prop := ∀ (n made : Nat) (μ : mu_T) (S : Int → Int) (kd v a b : Int), n < 50 → made ≤ n → IV n made μ S → (0 ≤ kd ∧ kd < 24) → (0 ≤ v ∧ v < 1000) → (0 ≤ a ∧ a < 9) → (0 ≤ b ∧ b < 9) → ∃ (bf ch r : Int) (μ1 μ2 : mu_T), rg_ r ∧ f_L_sum_o132 μ = some bf ∧ f_X11_account μ 15 = some ch ∧ f_L_does μ kd v a b = some (r, μ1) ∧ f_L_isWhole_o132 μ1 = some (1, μ2) ∧ ((r < 0 ∧ r ≠ -15 ∧ f_L_sum_o132 μ2 = some bf ∧ f_X11_account μ2 15 = some ch ∧ f_X11_account μ2 14 = some 0 ∧ IV (n + 1) made μ2 S) ∨ ((r = -15 ∨ 0 ≤ r) ∧ ∃ w, f_L_sum_o132 μ2 = some w ∧ IV (n + 1) (made + 1) μ2 (ur_ S (made + 1 : Nat) w)))
def lh_e (IV : IV_T) : Prop := ∀ (made : Nat) (μ : mu_T) (S : Int → Int), made ≤ 50 → IV 50 made μ S → ∃ μ1 μ2, f_L_isKept_o132 (um_ μ 151 S) made = some (1, μ1) ∧ f_L_isRound_o132 μ1 = some (1, μ2)
set_option maxHeartbeats 4000000 in
set_option maxRecDepth 100000 in
theorem law_loop {IV : IV_T} (hs : lh_s IV) (he : lh_e IV) (htk : ∀ v a b : Int, (0 ≤ v ∧ v < 1000) → (0 ≤ a ∧ a < 9) → (0 ≤ b ∧ b < 9) → tk_9 v a b) {G : gp_} {X : ct_} {ad : Nat → Nat} {b L x : Nat} {xs : Nat → Int32} {ret9 : Option FieldType} (C : cx_ G X code "UrnHeapLaw" room_1 ret9 10) (Sx : sx_ X b L xs) (hL : L ≤ 260) (hend : ∀ (ws : va_W) (lv : List (Nat × Value)) (k z : Nat), k ≤ 600000 → z ≤ 7302250 → wv_ G X ws k z 159 lv [.int (iI 1)]) : ∀ (m i made p q : Nat) (μ : mu_T) (S : Int → Int) (k z : Nat), m + i = 50 → made ≤ i → IV i made μ S → k + 30 * m ≤ 500000 ∧ z + 1200 * m ≤ 7000000 → wv_ G X (wl_ 151 (am_ ad p q) (ceX G (am_ ad p q)) μ ++ [(x, eJ_ G S)]) k z 28 [(5, .int (iI (i : Nat))), (4, .int (iI (5 * i : Nat))), (3, .int (iI (made : Nat))), (2, .ref x), (1, .ref (ad 132)), (0, .ref b)] [] := by
  intro m
  induction m with
  | zero =>
    intro i made p q μ S k z hi hm hI hk
    refine xx_iload C 30 rfl 0 dL_law_28 rfl ?_
    refine xx_bipush C 32 rfl dL_law_30 (by decide) ?_
    refine xx_icmp_ge (tgt := 138) (t := some ()) (f := none) (r := ()) C 35 rfl dL_law_32 (by decide) (by unfold lt_; rw [if_pos ⟨⟨by omega, by omega⟩, by decide⟩, if_neg (by omega)]) (fun _ => ?_) (fun h => nn_ h)
    rw [show i = 50 by omega] at hI
    obtain ⟨μ1, μ2, h1, h2⟩ := he made μ S (by omega) hI
    have e1 : wl_ 151 (am_ ad p q) (ceX G (am_ ad p q)) μ ++ [(x, eJ_ G S)] = wl_ 152 (a9_ (am_ ad p q) x) (cJ_ G (ceX G (am_ ad p q))) (um_ μ 151 S) := by rw [wl_x (fun k hk row => cJ_ne hk), wl_u, um_self]; rfl
    refine wv_eq (ws2 := wl_ 152 (a9_ (am_ ad p q) x) (cJ_ G (ceX G (am_ ad p q))) (um_ μ 151 S)) e1 rfl rfl ?_
    refine xx_aload_n C 139 rfl 4 dL_law_138 rfl rfl ?_
    refine xx_aload_n C 140 rfl 3 dL_law_139 rfl rfl ?_
    refine xx_iload_n C 141 rfl 2 dL_law_140 rfl rfl ?_
    refine xw_cSi (As := [.ref (ad 132), .ref x, .int (iI (made : Nat))]) (st := []) C 144 rfl sw_a ca_L_isKept cs_L_isKept w_1151 rfl ⟨(by exact Nat.le_of_ble_eq_true rfl), (by exact Nat.le_of_ble_eq_true rfl)⟩ ⟨by show k + 0 ≤ 600000; omega, by show z + 0 ≤ 7302250; omega⟩ (by exact Nat.le_of_ble_eq_true rfl) dL_law_141 (mw_i (c_L_isKept_o132 (G := G) (ad := am_ ad p q) (x := x) (um_ μ 151 S) (made : Int) 1 μ1 h1)) (fun _ => ?_) rfl
    refine xx_if_eq (tgt := 158) (t := none) (f := some ()) (r := ()) C 147 rfl dL_law_144 (by decide) (by decide) (fun h => nn_ h) (fun _ => ?_)
    have e2 : wl_ 152 (a9_ (am_ ad p q) x) (cJ_ G (ceX G (am_ ad p q))) μ1 = wl_ 151 (am_ ad p q) (ceX G (am_ ad p q)) μ1 ++ [(x, eJ_ G (μ1 151))] := by rw [wl_x (fun k hk row => cJ_ne hk)]; rfl
    refine wv_eq (ws2 := wl_ 151 (am_ ad p q) (ceX G (am_ ad p q)) μ1 ++ [(x, eJ_ G (μ1 151))]) e2 rfl rfl ?_
    refine xx_aload_n C 148 rfl 4 dL_law_147 rfl rfl ?_
    refine xw_cSi (As := [.ref (ad 132)]) (st := []) C 151 rfl sw_l ca_L_isRound cs_L_isRound w_1181 rfl ⟨(by exact Nat.le_of_ble_eq_true rfl), (by exact Nat.le_of_ble_eq_true rfl)⟩ ⟨by show k + 0 + 0 ≤ 600000; omega, by show z + 0 + 0 ≤ 7302250; omega⟩ (by exact Nat.le_of_ble_eq_true rfl) dL_law_148 (mw_i (c_L_isRound_o132 (G := G) (ad := am_ ad p q) μ1 1 μ2 h2)) (fun _ => ?_) rfl
    refine xx_if_eq (tgt := 158) (t := none) (f := some ()) (r := ()) C 154 rfl dL_law_151 (by decide) (by decide) (fun h => nn_ h) (fun _ => ?_)
    refine xx_iconst C 155 rfl dL_law_154 ?_
    refine xx_goto C 159 dL_law_155 (by decide) ?_
    exact hend _ _ _ _ (by show k + 0 + 0 ≤ 600000; omega) (by show z + 0 + 0 ≤ 7302250; omega)
  | succ m ih =>
    intro i made p q μ S k z hi hm hI hk
    refine xx_iload C 30 rfl 0 dL_law_28 rfl ?_
    refine xx_bipush C 32 rfl dL_law_30 (by decide) ?_
    refine xx_icmp_ge (tgt := 138) (t := none) (f := some ()) (r := ()) C 35 rfl dL_law_32 (by decide) (by unfold lt_; rw [if_pos ⟨⟨by omega, by omega⟩, by decide⟩, if_pos (by omega)]) (fun h => nn_ h) (fun _ => ?_)
    obtain ⟨bf, ch, r, μ1, μ2, hr, h1, h2, h3, h4, h5⟩ := hs i made μ S (pk_9 xs L (5 * i) 24) (pk_9 xs L (5 * i + 1) 1000) (pk_9 xs L (5 * i + 2) 9) (pk_9 xs L (5 * i + 3) 9) (by omega) hm hI (pk_r xs L _ (by decide)) (pk_r xs L _ (by decide)) (pk_r xs L _ (by decide)) (pk_r xs L _ (by decide))
    refine xx_aload_n C 36 rfl 4 dL_law_35 rfl rfl ?_
    refine xw_cSl (As := [.ref (ad 132)]) (st := []) C 39 rfl sw_l ca_L_sum cs_L_sum w_961 rfl ⟨(by exact Nat.le_of_ble_eq_true rfl), (by exact Nat.le_of_ble_eq_true rfl)⟩ ⟨by show k + 0 + 0 ≤ 600000; omega, by show z + 0 + 0 ≤ 7302250; omega⟩ (by exact Nat.le_of_ble_eq_true rfl) dL_law_36 (mw_l (c_L_sum_o132 (G := G) (ad := am_ ad p q) μ _ h1)) (fun _ => ?_) rfl
    refine xx_lstore (lv1 := [(6, .long (iL bf)), (5, .int (iI (i : Nat))), (4, .int (iI (5 * i : Nat))), (3, .int (iI (made : Nat))), (2, .ref x), (1, .ref (ad 132)), (0, .ref b)]) C 41 rfl (by decide) dL_law_39 rfl ?_
    refine xx_aload_n C 42 rfl 5 dL_law_41 rfl rfl ?_
    refine xx_bipush C 44 rfl dL_law_42 (by decide) ?_
    refine xw_cVi (As := [.int (iI 15)]) (st := []) C 47 rfl sw_l (i0 := 132) (a := ad 132) (yapp_l ((wl_get (by decide)).trans (by rw [ceX_132]; rfl))) rfl rfl ca_X11_account cv_X11_account w_365 rfl ⟨(by exact Nat.le_of_ble_eq_true rfl), (by exact Nat.le_of_ble_eq_true rfl)⟩ ⟨by show k + 0 + 0 ≤ 600000; omega, by show z + 0 + 0 ≤ 7302250; omega⟩ (by exact Nat.le_of_ble_eq_true rfl) dL_law_44 (mw_i (c_X11_account (G := G) (ad := am_ ad p q) μ 15 _ h2)) (fun _ => ?_) rfl
    refine xx_istore (lv1 := [(8, .int (iI ch)), (6, .long (iL bf)), (5, .int (iI (i : Nat))), (4, .int (iI (5 * i : Nat))), (3, .int (iI (made : Nat))), (2, .ref x), (1, .ref (ad 132)), (0, .ref b)]) C 49 rfl (by decide) dL_law_47 rfl ?_
    refine xx_aload_n C 50 rfl 7 dL_law_49 rfl rfl ?_
    refine xx_iload C 52 rfl 3 dL_law_50 rfl ?_
    refine xx_aload_n C 53 rfl 7 dL_law_52 rfl rfl ?_
    refine xx_iload C 55 rfl 3 dL_law_53 rfl ?_
    refine xx_bipush C 57 rfl dL_law_55 (by decide) ?_
    refine xw_cXi (As := [.ref b, .int (iI ((5 * i : Nat) : Int)), .int (iI ((24 : Nat) : Int))]) (st := [.int (iI ((5 * i : Nat) : Int)), .ref b]) C Sx 60 rfl (sw_l (w0 := [])) ca_L_pick cs_L_pick w_393 rfl ⟨(by exact Nat.le_of_ble_eq_true rfl), (by exact Nat.le_of_ble_eq_true rfl)⟩ ⟨by show k + 0 + 0 + 0 ≤ 600000; omega, by show z + 0 + 0 + 0 ≤ 7302250; omega⟩ (by exact Nat.le_of_ble_eq_true rfl) dL_law_57 (c_pick hL (k := 5 * i) (n := 24) (by omega) (by decide) (by decide)) (fun _ => ?_) rfl
    refine wv_eq (ws2 := wl_ 151 (am_ ad p q) (ceX G (am_ ad p q)) μ ++ [(x, eJ_ G S)]) (k2 := k) (n2 := z) rfl rfl rfl ?_
    refine xx_aload_n C 61 rfl 6 dL_law_60 rfl rfl ?_
    refine xw_cXi (As := [.ref b, .int (iI ((5 * i : Nat) : Int)), .int (iI (pk_9 xs L (5 * i) 24)), .ref (ad 132)]) (st := []) C Sx 64 rfl sw_l ca_L_does cs_L_does w_400 rfl ⟨(by exact Nat.le_of_ble_eq_true rfl), (by exact Nat.le_of_ble_eq_true rfl)⟩ ⟨by show k + 20 ≤ 600000; omega, by show z + 1160 ≤ 7302250; omega⟩ (by exact Nat.le_of_ble_eq_true rfl) dL_law_61 (c_does (G := G) (ad := ad) hL (p := p) (q := q) (k := 5 * i) (by omega) (htk _ _ _ (pk_r xs L _ (by decide)) (pk_r xs L _ (by decide)) (pk_r xs L _ (by decide))) h3) (fun u => ?_) rfl
    refine xx_istore (lv1 := [(9, .int (iI r)), (8, .int (iI ch)), (6, .long (iL bf)), (5, .int (iI (i : Nat))), (4, .int (iI (5 * i : Nat))), (3, .int (iI (made : Nat))), (2, .ref x), (1, .ref (ad 132)), (0, .ref b)]) C 66 rfl (by decide) dL_law_64 rfl ?_
    refine xx_iincn (f := fun w => if w = (5 * (i + 1) : Nat) then some () else none) (r := ()) C 69 rfl 4 (by decide) dL_law_66 rfl (by unfold nm_; exact if_pos (by omega)) (fun w9 hw => ?_)
    obtain rfl := (ck_e hw).1
    refine xx_lv (lv1 := [(4, .int (iI (5 * (i + 1) : Nat))), (9, .int (iI r)), (8, .int (iI ch)), (6, .long (iL bf)), (5, .int (iI (i : Nat))), (3, .int (iI (made : Nat))), (2, .ref x), (1, .ref (ad 132)), (0, .ref b)]) rfl ?_
    refine xx_aload_n C 70 rfl 7 dL_law_69 rfl rfl ?_
    refine xw_cSi (As := [.ref (ad 132)]) (st := []) C 73 rfl sw_l ca_L_isWhole cs_L_isWhole w_1009 rfl ⟨(by exact Nat.le_of_ble_eq_true rfl), (by exact Nat.le_of_ble_eq_true rfl)⟩ ⟨by show k + 20 + 1 ≤ 600000; omega, by show z + 1160 + 3 ≤ 7302250; omega⟩ (by exact Nat.le_of_ble_eq_true rfl) dL_law_70 (mw_i (c_L_isWhole_o132 (G := G) (ad := am_ ad u.1 u.2) μ1 1 μ2 h4)) (fun _ => ?_) rfl
    refine wv_eq (ws2 := wl_ 151 (am_ ad u.1 u.2) (ceX G (am_ ad u.1 u.2)) μ2 ++ [(x, eJ_ G S)]) (k2 := k + 21) (n2 := z + 1163) rfl rfl rfl ?_
    refine xx_if_ne (tgt := 78) (t := some ()) (f := none) (r := ()) C 76 rfl dL_law_73 (by decide) (by decide) (fun _ => ?_) (fun h => nn_ h)
    refine xx_iload C 80 rfl 1 dL_law_78 rfl ?_
    rcases h5 with ⟨g1, g2, g3, g4, g5, g6⟩ | ⟨g1, w, g3, g6⟩
    · refine xx_if_ge (tgt := 122) (t := none) (f := some ()) (r := ()) C 83 rfl dL_law_80 (by decide) (by unfold lt_; rw [if_pos ⟨hr, by decide⟩, if_pos g1]) (fun h => nn_ h) (fun _ => ?_)
      refine xx_iload C 85 rfl 1 dL_law_83 rfl ?_
      refine xx_bipush C 87 rfl dL_law_85 (by decide) ?_
      refine xx_icmp_eq (tgt := 122) (t := none) (f := some ()) (r := ()) C 90 rfl dL_law_87 (by decide) (by unfold eq_; rw [if_neg g2]; exact if_pos ⟨hr, by decide⟩) (fun h => nn_ h) (fun _ => ?_)
      refine xx_aload_n C 91 rfl 7 dL_law_90 rfl rfl ?_
      refine xw_cSl (As := [.ref (ad 132)]) (st := []) C 94 rfl sw_l ca_L_sum cs_L_sum w_961 rfl ⟨(by exact Nat.le_of_ble_eq_true rfl), (by exact Nat.le_of_ble_eq_true rfl)⟩ ⟨by show k + 21 + 0 ≤ 600000; omega, by show z + 1163 + 0 ≤ 7302250; omega⟩ (by exact Nat.le_of_ble_eq_true rfl) dL_law_91 (mw_l (c_L_sum_o132 (G := G) (ad := am_ ad u.1 u.2) μ2 _ g3)) (fun _ => ?_) rfl
      refine xx_lload C 96 rfl 3 dL_law_94 rfl ?_
      refine xx_lcmp (f := some ()) (r := ()) C 97 rfl dL_law_96 (if_pos rfl) (fun _ => ?_)
      refine xx_if_ne (tgt := 120) (t := none) (f := some ()) (r := ()) C 100 rfl dL_law_97 (by decide) (by decide) (fun h => nn_ h) (fun _ => ?_)
      refine xx_aload_n C 101 rfl 7 dL_law_100 rfl rfl ?_
      refine xx_bipush C 103 rfl dL_law_101 (by decide) ?_
      refine xw_cVi (As := [.int (iI 15)]) (st := []) C 106 rfl sw_l (i0 := 132) (a := ad 132) (yapp_l ((wl_get (by decide)).trans (by rw [ceX_132]; rfl))) rfl rfl ca_X11_account cv_X11_account w_365 rfl ⟨(by exact Nat.le_of_ble_eq_true rfl), (by exact Nat.le_of_ble_eq_true rfl)⟩ ⟨by show k + 21 + 0 ≤ 600000; omega, by show z + 1163 + 0 ≤ 7302250; omega⟩ (by exact Nat.le_of_ble_eq_true rfl) dL_law_103 (mw_i (c_X11_account (G := G) (ad := am_ ad u.1 u.2) μ2 15 _ g4)) (fun _ => ?_) rfl
      refine xx_iload C 108 rfl 2 dL_law_106 rfl ?_
      refine xx_icmp_ne (tgt := 120) (t := none) (f := some ()) (r := ()) C 111 rfl dL_law_108 (by decide) (by unfold eq_; exact if_pos rfl) (fun h => nn_ h) (fun _ => ?_)
      refine xx_aload_n C 112 rfl 7 dL_law_111 rfl rfl ?_
      refine xx_bipush C 114 rfl dL_law_112 (by decide) ?_
      refine xw_cVi (As := [.int (iI 14)]) (st := []) C 117 rfl sw_l (i0 := 132) (a := ad 132) (yapp_l ((wl_get (by decide)).trans (by rw [ceX_132]; rfl))) rfl rfl ca_X11_account cv_X11_account w_365 rfl ⟨(by exact Nat.le_of_ble_eq_true rfl), (by exact Nat.le_of_ble_eq_true rfl)⟩ ⟨by show k + 21 + 0 ≤ 600000; omega, by show z + 1163 + 0 ≤ 7302250; omega⟩ (by exact Nat.le_of_ble_eq_true rfl) dL_law_114 (mw_i (c_X11_account (G := G) (ad := am_ ad u.1 u.2) μ2 14 _ g5)) (fun _ => ?_) rfl
      refine xx_if_eq (tgt := 132) (t := some ()) (f := none) (r := ()) C 120 rfl dL_law_117 (by decide) (by decide) (fun _ => ?_) (fun h => nn_ h)
      refine xx_iincn (f := fun w => if w = (i + 1 : Nat) then some () else none) (r := ()) C 135 rfl 4 (by decide) dL_law_132 rfl (by unfold nm_; exact if_pos (by omega)) (fun w9 hw => ?_)
      obtain rfl := (ck_e hw).1
      refine xx_goto C 28 dL_law_135 (by decide) ?_
      refine xx_sub (lv1 := [(5, .int (iI (i + 1 : Nat))), (4, .int (iI (5 * (i + 1) : Nat))), (3, .int (iI (made : Nat))), (2, .ref x), (1, .ref (ad 132)), (0, .ref b)]) [0, 1, 5, 6, 7, 8] rfl ?_
      exact ih (i + 1) made u.1 u.2 μ2 S _ _ (by omega) (by omega) g6 ⟨by show k + 21 + 0 + 0 + 0 + 30 * m ≤ 500000; omega, by show z + 1163 + 0 + 0 + 0 + 1200 * m ≤ 7000000; omega⟩
    · have J9 : wv_ G X (wl_ 151 (am_ ad u.1 u.2) (ceX G (am_ ad u.1 u.2)) μ2 ++ [(x, eJ_ G S)]) (k + 21) (z + 1163) 122 [(4, .int (iI (5 * (i + 1) : Nat))), (9, .int (iI r)), (8, .int (iI ch)), (6, .long (iL bf)), (5, .int (iI (i : Nat))), (3, .int (iI (made : Nat))), (2, .ref x), (1, .ref (ad 132)), (0, .ref b)] [] := by
        refine xx_iincn (f := fun w => if w = (made + 1 : Nat) then some () else none) (r := ()) C 125 rfl 5 (by decide) dL_law_122 rfl (by unfold nm_; exact if_pos (by omega)) (fun w9 hw => ?_)
        obtain rfl := (ck_e hw).1
        refine xx_lv (lv1 := [(3, .int (iI (made + 1 : Nat))), (4, .int (iI (5 * (i + 1) : Nat))), (9, .int (iI r)), (8, .int (iI ch)), (6, .long (iL bf)), (5, .int (iI (i : Nat))), (2, .ref x), (1, .ref (ad 132)), (0, .ref b)]) rfl ?_
        refine xx_aload_n C 126 rfl 6 dL_law_125 rfl rfl ?_
        refine xx_iload_n C 127 rfl 0 dL_law_126 rfl rfl ?_
        refine xx_aload_n C 128 rfl 7 dL_law_127 rfl rfl ?_
        refine xw_cSl (As := [.ref (ad 132)]) (st := [.int (iI (made + 1 : Nat)), .ref x]) C 131 rfl sw_l ca_L_sum cs_L_sum w_961 rfl ⟨(by exact Nat.le_of_ble_eq_true rfl), (by exact Nat.le_of_ble_eq_true rfl)⟩ ⟨by show k + 21 + 0 ≤ 600000; omega, by show z + 1163 + 0 ≤ 7302250; omega⟩ (by exact Nat.le_of_ble_eq_true rfl) dL_law_128 (mw_l (c_L_sum_o132 (G := G) (ad := am_ ad u.1 u.2) μ2 _ g3)) (fun _ => ?_) rfl
        refine xv_last C 132 rfl (by omega) (by omega) dL_law_131 ?_
        refine xx_iincn (f := fun w => if w = (i + 1 : Nat) then some () else none) (r := ()) C 135 rfl 5 (by decide) dL_law_132 rfl (by unfold nm_; exact if_pos (by omega)) (fun w9 hw => ?_)
        obtain rfl := (ck_e hw).1
        refine xx_goto C 28 dL_law_135 (by decide) ?_
        refine xx_sub (lv1 := [(5, .int (iI (i + 1 : Nat))), (4, .int (iI (5 * (i + 1) : Nat))), (3, .int (iI (made + 1 : Nat))), (2, .ref x), (1, .ref (ad 132)), (0, .ref b)]) [0, 2, 1, 6, 7, 8] rfl ?_
        exact ih (i + 1) (made + 1) u.1 u.2 μ2 (ur_ S (made + 1 : Nat) w) _ _ (by omega) (by omega) g6 ⟨by show k + 21 + 0 + 30 * m ≤ 500000; omega, by show z + 1163 + 0 + 1200 * m ≤ 7000000; omega⟩
      by_cases h0 : r < 0
      · refine xx_if_ge (tgt := 122) (t := none) (f := some ()) (r := ()) C 83 rfl dL_law_80 (by decide) (by unfold lt_; rw [if_pos ⟨hr, by decide⟩, if_pos h0]) (fun h => nn_ h) (fun _ => ?_)
        refine xx_iload C 85 rfl 1 dL_law_83 rfl ?_
        refine xx_bipush C 87 rfl dL_law_85 (by decide) ?_
        refine xx_icmp_eq (tgt := 122) (t := some ()) (f := none) (r := ()) C 90 rfl dL_law_87 (by decide) (by unfold eq_; exact if_pos (by omega)) (fun _ => ?_) (fun h => nn_ h)
        exact J9
      · refine xx_if_ge (tgt := 122) (t := some ()) (f := none) (r := ()) C 83 rfl dL_law_80 (by decide) (by unfold lt_; rw [if_pos ⟨hr, by decide⟩, if_neg h0]) (fun _ => ?_) (fun h => nn_ h)
        exact J9
set_option maxHeartbeats 4000000 in
set_option maxRecDepth 100000 in
theorem law_start {IV : IV_T} (h0 : ∃ w, f_L_sum_o132 mX0_ = some w ∧ IV 0 0 mX0_ (ur_ (fun _ => 0) 0 w)) (hs : lh_s IV) (he : lh_e IV) (htk : ∀ v a b : Int, (0 ≤ v ∧ v < 1000) → (0 ≤ a ∧ a < 9) → (0 ≤ b ∧ b < 9) → tk_9 v a b) {p : Program} {e : Env} {s : State} {m : MethodId} {below : List Frame} {meth : Method} {c : Code} (l : Launch) {b L : Nat} {xs : Nat → Int32} (hL : L ≤ 260) (C0 : lw_At p s m meth c b L xs) : W p l e room_1 s m #[Value.ref b] below meth c s.heap [] 0 0 (lw_Z below #[Value.ref b] s) (entryFrame m ([Value.ref b] : List Value).toArray 10) := by
  obtain ⟨hx, hb, hr, hml, hown, hts, hX, hbl, hlocks, hgv⟩ := id C0
  have hs9 : ∀ w ∈ nf_, w.before #[Value.ref b] s = true := flat_of_before _ hgv
  obtain ⟨D, hK⟩ := vK_start hts
  obtain ⟨G, hG1, hG2, hg⟩ := gk_start hs9 hts D
  rw [← hG1] at hK
  have C : cx_ G (p, l, e, room_1, s, m, #[Value.ref b], below, meth, c, lw_Z below #[Value.ref b] s, (fun q => s.heap.size ≤ q), 10) code "UrnHeapLaw" room_1 ret 10 := ⟨hx, hb, gT_ok hts, hown, hK, fun q h => h, hml, hlocks, fun q h => by rw [hG2]; exact h, rfl, hr, hg, rfl⟩
  have Sx : sx_ (p, l, e, room_1, s, m, #[Value.ref b], below, meth, c, lw_Z below #[Value.ref b] s, (fun q => s.heap.size ≤ q), 10) b L xs := ⟨hX, hbl, Nat.not_le.mpr hbl⟩
  have hl := lv_entry ([.ref b]) (n := 10) (Nat.le_of_ble_eq_true rfl)
  rw [lg_entry_eq]
  have K : wv_ G (p, l, e, room_1, s, m, #[Value.ref b], below, meth, c, lw_Z below #[Value.ref b] s, (fun q => s.heap.size ≤ q), 10) [] 0 0 0 [(0, .ref b)] [] := by
    generalize hXX : ((p, l, e, room_1, s, m, #[Value.ref b], below, meth, c, lw_Z below #[Value.ref b] s, (fun q => s.heap.size ≤ q), 10) : ct_) = X at C Sx ⊢
    refine xv_new (ci := 11) (fs := [.null, .null, .null, .null, .null, .null, .null, .null]) C 3 rfl in_X11 tyX11 tyX11_ok rfl (fun j hj => by rcases (show j = 0 ∨ j = 1 ∨ j = 2 ∨ j = 3 ∨ j = 4 ∨ j = 5 ∨ j = 6 ∨ j = 7 by omega) with rfl | rfl | rfl | rfl | rfl | rfl | rfl | rfl <;> rfl) ⟨w_50, w_51, w_25⟩ ⟨(Nat.le_of_ble_eq_true rfl), (Nat.le_of_ble_eq_true rfl)⟩ dL_law_0 (fun q => ?_)
    show wv_ G X ([] ++ [(q, .inr (11, [.null, .null, .null, .null, .null, .null, .null, .null]))]) 1 8 3 [(0, .ref b)] [.ref q]
    refine xx_dup C 4 rfl dL_law_3 rfl ?_
    refine xv_ctor (k := 1) (n := 8) (e := .inr (11, [.null, .null, .null, .null, .null, .null, .null, .null])) (ws := []) (q := q) (st := [.ref q]) (As := []) C 7 rfl ca_X11_init ⟨rfl, w_53⟩ w_52 rfl ⟨(Nat.le_of_ble_eq_true rfl), (Nat.le_of_ble_eq_true rfl)⟩ ⟨(Nat.le_of_ble_eq_true rfl), (Nat.le_of_ble_eq_true rfl)⟩ (Nat.le_of_ble_eq_true rfl) dL_law_4 (i_X11) (fun u => ?_) rfl
    refine wv_eq (ws2 := hX11_ G q u.1 u.2.1 u.2.2) (k2 := 151) (n2 := 3416) rfl (Nat.eq_of_beq_eq_true rfl) (Nat.eq_of_beq_eq_true rfl) ?_
    refine wv_map wX0_ok.1 wX0_ok.2 ?_
    refine xx_astore_n (lv1 := [(1, .ref q), (0, .ref b)]) C 8 rfl (by decide) dL_law_7 rfl rfl ?_
    generalize haX : aX0_ q u.1 u.2.1 u.2.2 = ad
    have eq9 : q = ad 132 := by rw [← haX]; rfl
    rw [eq9]
    refine xx_bipush C 10 rfl dL_law_8 (by decide) ?_
    refine xv_newl C 12 rfl w_1184 ⟨(Nat.le_of_ble_eq_true rfl), (Nat.le_of_ble_eq_true rfl)⟩ dL_law_10 (fun x => ?_)
    refine xx_astore_n (lv1 := [(2, .ref x), (1, .ref (ad 132)), (0, .ref b)]) C 13 rfl (by decide) dL_law_12 rfl rfl ?_
    refine xx_iconst C 14 rfl dL_law_13 ?_
    refine xx_istore_n (lv1 := [(3, .int (iI (0 : Nat))), (2, .ref x), (1, .ref (ad 132)), (0, .ref b)]) C 15 rfl (by decide) dL_law_14 rfl rfl ?_
    obtain ⟨w, h1, hI⟩ := h0
    have ea : am_ ad (ad 142) (ad 150) = ad := am_id ad
    refine xx_aload_n C 16 rfl 1 dL_law_15 rfl rfl ?_
    refine xx_iload_n C 17 rfl 0 dL_law_16 rfl rfl ?_
    refine xx_aload_n C 18 rfl 2 dL_law_17 rfl rfl ?_
    refine xw_cSl (As := [.ref (ad 132)]) (st := [.int (iI (0 : Nat)), .ref x]) C 21 rfl sw_l ca_L_sum cs_L_sum w_961 rfl ⟨(by exact Nat.le_of_ble_eq_true rfl), (by exact Nat.le_of_ble_eq_true rfl)⟩ ⟨(by exact Nat.le_of_ble_eq_true rfl), (by exact Nat.le_of_ble_eq_true rfl)⟩ (by exact Nat.le_of_ble_eq_true rfl) dL_law_18 (mw_l (c_L_sum_o132 (G := G) (ad := ad) mX0_ w h1)) (fun _ => ?_) rfl
    refine xv_last C 22 rfl (by decide) (by decide) dL_law_21 ?_
    refine xx_iconst C 23 rfl dL_law_22 ?_
    refine xx_istore (lv1 := [(4, .int (iI (5 * 0 : Nat))), (3, .int (iI (0 : Nat))), (2, .ref x), (1, .ref (ad 132)), (0, .ref b)]) C 25 rfl (by decide) dL_law_23 rfl ?_
    refine xx_iconst C 26 rfl dL_law_25 ?_
    refine xx_istore (lv1 := [(5, .int (iI (0 : Nat))), (4, .int (iI (5 * 0 : Nat))), (3, .int (iI (0 : Nat))), (2, .ref x), (1, .ref (ad 132)), (0, .ref b)]) C 28 rfl (by decide) dL_law_26 rfl ?_
    refine wv_eq (ws2 := wl_ 151 (am_ ad (ad 142) (ad 150)) (ceX G (am_ ad (ad 142) (ad 150))) mX0_ ++ [(x, eJ_ G (ur_ (fun _ => 0) 0 w))]) (k2 := 152) (n2 := 3476) (by rw [ea]; rfl) (Nat.eq_of_beq_eq_true rfl) (Nat.eq_of_beq_eq_true rfl) ?_
    refine law_loop hs he htk C Sx hL ?_ 50 0 0 (ad 142) (ad 150) mX0_ (ur_ (fun _ => 0) 0 w) 152 3476 (by omega) (by omega) hI ⟨by omega, by omega⟩
    intro ws lv k9 z9 hk9 hz9
    subst hXX
    intro H locs ls hP hD hS hl9
    refine W.widen hk9 hz9 ?_
    refine va_forget (fun q hq => hS.2.2 q hq) ?_
    exact lw_ret (d0 := s.drawn) (Drawn.sameBut.refl s.drawn lw_cs) hx hb hr hlocks dL_law_159
  have e0 : wl_ ([] : va_W).length (aL_ []) (cL_ []) mz_ = [] := wl_L [] mz_
  have hP0 : va_P G.1 vwCl ([] : va_W) s.heap := fun k x h => by simp at h
  have hD0 : va_D (fun q : Nat => s.heap.size ≤ q) ([] : va_W) := ⟨fun i j x y h => by simp at h, fun k x h => by simp at h⟩
  exact K s.heap [] _ (by rw [e0]; exact hP0) (by rw [e0]; exact hD0) va_S.rf hl
