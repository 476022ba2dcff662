/-! the growth of a row of bytes (written by wip/gen/rows5.py) -/
theorem dJ7_copyOf_9075b_0 : decode cJ7_copyOf_9075b 0 = .ok (.iload_n 1, 1) := by decide +kernel
theorem dJ7_copyOf_9075b_1 : decode cJ7_copyOf_9075b 1 = .ok (.aload_n 0, 1) := by decide +kernel
theorem dJ7_copyOf_9075b_2 : decode cJ7_copyOf_9075b 2 = .ok (.arraylength, 1) := by decide +kernel
theorem dJ7_copyOf_9075b_3 : decode cJ7_copyOf_9075b 3 = .ok (.if_icmp .ne 11, 3) := by decide +kernel
theorem dJ7_copyOf_9075b_6 : decode cJ7_copyOf_9075b 6 = .ok (.aload_n 0, 1) := by decide +kernel
theorem dJ7_copyOf_9075b_7 : decode cJ7_copyOf_9075b 7 = .ok (.invokevirtual 310, 3) := by decide +kernel
theorem dJ7_copyOf_9075b_10 : decode cJ7_copyOf_9075b 10 = .ok (.checkcast 311, 3) := by decide +kernel
theorem dJ7_copyOf_9075b_13 : decode cJ7_copyOf_9075b 13 = .ok (.areturn, 1) := by decide +kernel
theorem dJ7_copyOf_9075b_14 : decode cJ7_copyOf_9075b 14 = .ok (.iload_n 1, 1) := by decide +kernel
theorem dJ7_copyOf_9075b_15 : decode cJ7_copyOf_9075b 15 = .ok (.newarray .byte, 2) := by decide +kernel
theorem dJ7_copyOf_9075b_17 : decode cJ7_copyOf_9075b 17 = .ok (.astore_n 2, 1) := by decide +kernel
theorem dJ7_copyOf_9075b_18 : decode cJ7_copyOf_9075b 18 = .ok (.aload_n 0, 1) := by decide +kernel
theorem dJ7_copyOf_9075b_19 : decode cJ7_copyOf_9075b 19 = .ok (.iconst 0, 1) := by decide +kernel
theorem dJ7_copyOf_9075b_20 : decode cJ7_copyOf_9075b 20 = .ok (.aload_n 2, 1) := by decide +kernel
theorem dJ7_copyOf_9075b_21 : decode cJ7_copyOf_9075b 21 = .ok (.iconst 0, 1) := by decide +kernel
theorem dJ7_copyOf_9075b_22 : decode cJ7_copyOf_9075b 22 = .ok (.aload_n 0, 1) := by decide +kernel
theorem dJ7_copyOf_9075b_23 : decode cJ7_copyOf_9075b 23 = .ok (.arraylength, 1) := by decide +kernel
theorem dJ7_copyOf_9075b_24 : decode cJ7_copyOf_9075b 24 = .ok (.iload_n 1, 1) := by decide +kernel
theorem dJ7_copyOf_9075b_25 : decode cJ7_copyOf_9075b 25 = .ok (.invokestatic 304, 3) := by decide +kernel
theorem dJ7_copyOf_9075b_28 : decode cJ7_copyOf_9075b 28 = .ok (.invokestatic 150, 3) := by decide +kernel
theorem dJ7_copyOf_9075b_31 : decode cJ7_copyOf_9075b 31 = .ok (.aload_n 2, 1) := by decide +kernel
theorem dJ7_copyOf_9075b_32 : decode cJ7_copyOf_9075b 32 = .ok (.areturn, 1) := by decide +kernel
theorem w_658 : Cond.methodLink "java/util/Arrays" 150 arraycopyName ∈ gT_ := gm_ 658 (by decide +kernel)
theorem w_657 : Cond.methodLink "java/util/Arrays" 304 Lib.Math.min.name ∈ gT_ := gm_ 657 (by decide +kernel)
theorem w_295 : Cond.arrayClass .byte ∈ gT_ := gm_ 295 (by decide +kernel)
theorem ceX_c (M Ob : Nat) {G : gp_} {ad1 ad2 : Nat → Nat} (hM : M = 142 ∧ Ob = 141 ∨ M = 150 ∧ Ob = 149) (h : ∀ j, j ≠ M → ad1 j = ad2 j) (k : Nat) (hk : k < 151) (ho : k ≠ Ob) (row : Int → Int) : ceX G ad1 k row = ceX G ad2 k row := by
  by_cases h1 : k < 132
  · have hi : k / 12 < 11 := by omega
    have e9 : 12 * (k / 12) + k % 12 = k := by omega
    have hj : k % 12 < 12 := by omega
    rw [← e9]
    generalize k / 12 = i at hi
    generalize k % 12 = j at hj
    have hz : ∀ c, c < 12 → ad1 (12 * i + c) = ad2 (12 * i + c) := fun c hc => h _ (by omega)
    match j, hj with
    | 0, _ => rw [ceXh_0 G ad1 row i hi, ceXh_0 G ad2 row i hi, hz 1 (by decide), hz 2 (by decide), hz 3 (by decide), hz 4 (by decide), hz 5 (by decide), hz 6 (by decide), hz 7 (by decide), hz 8 (by decide), hz 10 (by decide)]
    | 1, _ => rw [ceXh_1 G ad1 row i hi, ceXh_1 G ad2 row i hi]
    | 2, _ => rw [ceXh_2 G ad1 row i hi, ceXh_2 G ad2 row i hi]
    | 3, _ => rw [ceXh_3 G ad1 row i hi, ceXh_3 G ad2 row i hi]
    | 4, _ => rw [ceXh_4 G ad1 row i hi, ceXh_4 G ad2 row i hi]
    | 5, _ => rw [ceXh_5 G ad1 row i hi, ceXh_5 G ad2 row i hi]
    | 6, _ => rw [ceXh_6 G ad1 row i hi, ceXh_6 G ad2 row i hi]
    | 7, _ => rw [ceXh_7 G ad1 row i hi, ceXh_7 G ad2 row i hi]
    | 8, _ => rw [ceXh_8 G ad1 row i hi, ceXh_8 G ad2 row i hi, hz 9 (by decide)]
    | 9, _ => rw [ceXh_9 G ad1 row i hi, ceXh_9 G ad2 row i hi]
    | 10, _ => rw [ceXh_10 G ad1 row i hi, ceXh_10 G ad2 row i hi, hz 11 (by decide)]
    | 11, _ => rw [ceXh_11 G ad1 row i hi, ceXh_11 G ad2 row i hi]
  · obtain ⟨j, hj, rfl⟩ : ∃ j, j < 19 ∧ k = 132 + j := ⟨k - 132, by omega, by omega⟩
    match j, hj with
    | 0, _ =>
      show ceX G ad1 132 row = ceX G ad2 132 row
      rw [ceX_132, ceX_132, h 0 (by omega), h 133 (by omega), h 134 (by omega), h 135 (by omega), h 136 (by omega), h 138 (by omega), h 140 (by omega), h 148 (by omega)]
    | 1, _ =>
      show ceX G ad1 133 row = ceX G ad2 133 row
      rw [ceX_133, ceX_133]
    | 2, _ =>
      show ceX G ad1 134 row = ceX G ad2 134 row
      rw [ceX_134, ceX_134, h 0 (by omega), h 133 (by omega)]
    | 3, _ =>
      show ceX G ad1 135 row = ceX G ad2 135 row
      rw [ceX_135, ceX_135, h 0 (by omega), h 133 (by omega)]
    | 4, _ =>
      show ceX G ad1 136 row = ceX G ad2 136 row
      rw [ceX_136, ceX_136, h 0 (by omega), h 137 (by omega)]
    | 5, _ =>
      show ceX G ad1 137 row = ceX G ad2 137 row
      rw [ceX_137, ceX_137]
    | 6, _ =>
      show ceX G ad1 138 row = ceX G ad2 138 row
      rw [ceX_138, ceX_138, h 0 (by omega), h 139 (by omega), h 120 (by omega)]
    | 7, _ =>
      show ceX G ad1 139 row = ceX G ad2 139 row
      rw [ceX_139, ceX_139]
      have e7 : (fun j : Nat => some (ad1 (12 * (j + 1)))) = fun j : Nat => some (ad2 (12 * (j + 1))) := funext fun j => by rw [h _ (by omega)]
      rw [e7]
    | 8, _ =>
      show ceX G ad1 140 row = ceX G ad2 140 row
      rw [ceX_140, ceX_140, h 141 (by omega), h 143 (by omega), h 144 (by omega), h 145 (by omega), h 146 (by omega), h 147 (by omega)]
    | 9, _ =>
      show ceX G ad1 141 row = ceX G ad2 141 row
      rw [ceX_141, ceX_141, h 142 (by omega)]
    | 10, _ =>
      show ceX G ad1 142 row = ceX G ad2 142 row
      rw [ceX_142, ceX_142]
    | 11, _ =>
      show ceX G ad1 143 row = ceX G ad2 143 row
      rw [ceX_143, ceX_143]
    | 12, _ =>
      show ceX G ad1 144 row = ceX G ad2 144 row
      rw [ceX_144, ceX_144]
    | 13, _ =>
      show ceX G ad1 145 row = ceX G ad2 145 row
      rw [ceX_145, ceX_145]
    | 14, _ =>
      show ceX G ad1 146 row = ceX G ad2 146 row
      rw [ceX_146, ceX_146]
    | 15, _ =>
      show ceX G ad1 147 row = ceX G ad2 147 row
      rw [ceX_147, ceX_147]
    | 16, _ =>
      show ceX G ad1 148 row = ceX G ad2 148 row
      rw [ceX_148, ceX_148, h 149 (by omega)]
    | 17, _ =>
      show ceX G ad1 149 row = ceX G ad2 149 row
      rw [ceX_149, ceX_149, h 150 (by omega)]
    | 18, _ =>
      show ceX G ad1 150 row = ceX G ad2 150 row
      rw [ceX_150, ceX_150]
    | n + 19, h9 => exact absurd h9 (by omega)
theorem wl_map {D : va_G} {cl : List vw_C} {A : Nat → Prop} {w1 w2 : va_W} {H : Heap} (σ : Nat → Nat) (hσ : ∀ i j x y, w2[i]? = some x → w2[j]? = some y → σ i = σ j → i = j) (h : ∀ k x, w2[k]? = some x → w1[σ k]? = some x) (hP : va_P D cl w1 H) (hD : va_D A w1) : va_P D cl w2 H ∧ va_D A w2 :=
  ⟨fun k x hx => hP _ _ (h k x hx), fun i j x y hx hy e => hσ i j x y hx hy (hD.1 _ _ _ _ (h i x hx) (h j y hy) e), fun k x hx => hD.2 _ _ (h k x hx)⟩
theorem c_copyOf {G : gp_} {ad : Nat → Nat} {ce : Nat → (Int → Int) → va_E} (μ : mu_T) (b : Nat) (hb : b < 151) (he : ∀ row, ce b row = .inl (G.1.1 101, (row (-1)).toNat, .inl (fun j => iI (row (j : Nat))))) (e : Int) (h0 : bl_ μ b < e) (h1 : e ≤ 70) (hy : ∀ j : Nat, (j : Int) < bl_ μ b → -128 ≤ μ b j ∧ μ b j ≤ 127) (l : Launch) (sz : Nat) : Met l yJ7_copyOf_9075b (Cond.code yJ7_copyOf_9075b cJ7_copyOf_9075b 3 (some (.array .byte)) :: gT_) ({ frames := 1, cells := 1, slots := 70, locals := 40 } : Room) (va_Pc [.ref (ad b), .int (iI e)] (pr_ G 151 ad ce μ sz)) ((fun A => va_Qr (fun (_ : Unit) => True) (fun _ x t => po_ G 152 (a9_ ad x) (c9_ G ce) A (um_ μ 151 (gx_ μ b e)) t) A) (va_A (wl_ 151 ad ce μ) sz)) 1 70 (va_A (wl_ 151 ad ce μ) sz) := by
  refine mq_in (Qc := fun A => va_Qr (fun (_ : Unit) => True) (fun _ x t => po_ G 152 (a9_ ad x) (c9_ G ce) A (um_ μ 151 (gx_ μ b e)) t) A) (own := "java/util/Arrays") (lv := [(0, .ref (ad b)), (1, .int (iI e))]) (rm := ({ frames := 1, cells := 1, slots := 70, locals := 40 } : Room)) (by decide) rfl rfl (Nat.le_of_ble_eq_true rfl) (fun X C E => ?_) l sz
  have hbl : 0 ≤ bl_ μ b := by unfold bl_; omega
  refine xx_iload_n C 1 rfl 1 dJ7_copyOf_9075b_0 rfl rfl ?_
  refine xx_aload_n C 2 rfl 0 dJ7_copyOf_9075b_1 rfl rfl ?_
  refine xx_blen (f := fun v => if v = bl_ μ b then some () else none) (r := ()) C 3 rfl hb he dJ7_copyOf_9075b_2 (by show (if _ then _ else _) = _; rw [if_pos rfl]) (fun v hv => ?_)
  have hv2 := (ck_e hv).1
  subst hv2
  refine xx_icmp_ne (tgt := 14) (t := some ()) (f := none) (r := ()) C 6 rfl dJ7_copyOf_9075b_3 (by decide) (by unfold eq_; rw [if_neg (by omega), if_pos ⟨⟨by omega, by omega⟩, by omega, by omega⟩]) (fun _ => ?_) (fun h => nn_ h)
  refine xx_iload_n C 15 rfl 1 dJ7_copyOf_9075b_14 rfl rfl ?_
  refine xx_newb C 17 rfl (by omega) h1 w_295 ⟨(Nat.le_of_ble_eq_true rfl), by show 0 + e.toNat ≤ 70; omega⟩ dJ7_copyOf_9075b_15 (fun x => ?_)
  have hb2 : b ≠ 151 := by omega
  have he2 : ∀ row, c9_ G ce b row = .inl (G.1.1 101, (row (-1)).toNat, .inl (fun j => iI (row (j : Nat)))) := fun row => (c9_ne hb2).trans (he row)
  rw [← a9_ne (ad := ad) (x := x) hb2]
  have eb : (um_ μ 151 (fun j : Int => if j = -1 then e else 0)) b = μ b := um_ne hb2
  have ebl : bl_ (um_ μ 151 (fun j : Int => if j = -1 then e else 0)) b = bl_ μ b := by unfold bl_; rw [eb]
  have ebn : bl_ (um_ μ 151 (fun j : Int => if j = -1 then e else 0)) 151 = e := by
    unfold bl_
    rw [um_self]
    show (((if (-1 : Int) = -1 then e else 0).toNat : Nat) : Int) = e
    rw [if_pos rfl]
    omega
  refine xx_astore_n (lv1 := [(2, .ref x), (0, .ref (a9_ ad x b)), (1, .int (iI e))]) C 18 rfl (by decide) dJ7_copyOf_9075b_17 rfl rfl ?_
  refine xx_aload_n C 19 rfl 1 dJ7_copyOf_9075b_18 rfl rfl ?_
  refine xx_iconst C 20 rfl dJ7_copyOf_9075b_19 ?_
  refine xx_aload_n C 21 rfl 0 dJ7_copyOf_9075b_20 rfl rfl ?_
  refine xx_iconst C 22 rfl dJ7_copyOf_9075b_21 ?_
  refine xx_aload_n C 23 rfl 1 dJ7_copyOf_9075b_22 rfl rfl ?_
  refine xx_blen (f := fun v => if v = bl_ μ b then some () else none) (r := ()) C 24 rfl (by omega) he2 dJ7_copyOf_9075b_23 (by show (if _ then _ else _) = _; rw [if_pos ebl]) (fun v hv => ?_)
  have hv2 := (ck_e hv).1
  subst hv2
  refine xx_iload_n C 25 rfl 2 dJ7_copyOf_9075b_24 rfl rfl ?_
  refine xx_mmin (f := fun v => if v = bl_ μ b then some () else none) (r := ()) C 28 rfl ⟨w_657, w_451, w_41, w_452⟩ ⟨(Nat.le_of_ble_eq_true rfl), (Nat.le_of_ble_eq_true rfl)⟩ ⟨(Nat.le_of_ble_eq_true rfl), by show 0 + e.toNat ≤ 70; omega⟩ dJ7_copyOf_9075b_25 (by unfold mn_; rw [if_pos ⟨⟨by omega, by omega⟩, by omega, by omega⟩, if_neg (show ¬ e < bl_ μ b by omega)]; exact if_pos rfl) (fun v hv => ?_)
  have hv2 := (ck_e hv).1
  subst hv2
  refine xx_bcopy (q1 := b) (q2 := 151) (st := []) C 31 rfl (by omega) he2 (by decide) (fun row => rfl) hbl (by rw [ebl]; exact Int.le_refl _) (by rw [ebn]; omega) (by omega) (fun j hj => by rw [eb]; exact hy j hj) ⟨w_658, w_421, w_420, w_40⟩ ⟨(Nat.le_of_ble_eq_true rfl), (Nat.le_of_ble_eq_true rfl)⟩ dJ7_copyOf_9075b_28 ?_
  refine xx_aload_n C 32 rfl 0 dJ7_copyOf_9075b_31 rfl rfl ?_
  have em : um_ (um_ μ 151 (fun j : Int => if j = -1 then e else 0)) 151 (fun j => if 0 ≤ j ∧ j < bl_ μ b then (um_ μ 151 (fun j : Int => if j = -1 then e else 0)) b j else (um_ μ 151 (fun j : Int => if j = -1 then e else 0)) 151 j) = um_ μ 151 (gx_ μ b e) := by
    funext i
    by_cases hi : i = 151
    · subst hi
      rw [um_self, um_self]
      funext j
      rw [eb, um_self]
      unfold gx_
      show (if 0 ≤ j ∧ j < bl_ μ b then μ b j else if j = -1 then e else 0) = if j = -1 then e else if 0 ≤ j ∧ j < bl_ μ b then μ b j else 0
      by_cases h3 : j = -1
      · rw [if_neg (by omega), if_pos h3, if_pos h3]
      · rw [if_neg h3, if_neg h3]
    · rw [um_ne hi, um_ne hi, um_ne hi]
  rw [em]
  obtain ⟨p9, l9, e9, R, s, m, args, below, meth, c, Q, A, nL⟩ := X
  intro H locs ls hP hD hS hl
  obtain ⟨hx, hb9, -, -, hK, -, -, hlocks, -, -, hrt, -, -⟩ := C
  rw [show Q = _ from E]
  refine W.widen (show 0 + 1 ≤ 1 by omega) (show 0 + e.toNat ≤ 70 by omega) ?_
  exact W.aret hx hb9 hrt (Or.inr ⟨_, rfl⟩) (Or.inr ⟨_, rfl⟩) (fun t ht hW => ⟨⟨(), x, rfl, trivial, by rw [ht]; exact hP, va_K.moved hW.alike hK, hD⟩, hS.F ht⟩) hS.2.2 dJ7_copyOf_9075b_32 hlocks
set_option maxRecDepth 100000 in
theorem xx_grow141 {G : gp_} {X : ct_} {ad : Nat → Nat} {p q : Nat} {μ : mu_T} {k n pc : Nat} {lv : List (Nat × Value)} {cc : ByteArray} {rm : Room} {ret : Option FieldType} {nl : Nat} {α : Type} {r : α} (C : cx_ G X cc "java/lang/AbstractStringBuilder" rm ret nl) (p1 : Nat) (hp : pc + 6 = p1) {e : Int} {f : mu_T → Option α} (hf : k + 1 ≤ rm.cells ∧ n + 70 ≤ rm.slots) (hR : 2 ≤ rm.frames ∧ 8 + (3 + 11) + 40 ≤ rm.locals) (d1 : decode cc pc = .ok (.invokestatic 108, 3)) (d2 : decode cc (pc + 3) = .ok (.putfield 15, 3)) (h : gw_ μ 142 e f = some r) (kk : ∀ p1' q1' μ1, f μ1 = some r → wx_ G X 151 (am_ ad p1' q1') (ceX G (am_ ad p1' q1')) μ1 (k + 1) (n + 70) p1 lv []) : wx_ G X 151 (am_ ad p q) (ceX G (am_ ad p q)) μ k n pc lv [.int (iI e), .ref (am_ ad p q 142), .ref (am_ ad p q 141)] := by
  obtain ⟨⟨⟨h0, h1⟩, hall⟩, h⟩ := ck_e h
  have hy : ∀ j : Nat, (j : Int) < bl_ μ 142 → -128 ≤ μ 142 j ∧ μ 142 j ≤ 127 := fun j hj => by
    have := List.all_eq_true.mp hall j (List.mem_range.mpr (by omega))
    simp only [Bool.and_eq_true, decide_eq_true_eq] at this
    exact this
  obtain ⟨p9, l, e9, R, s, m, args, below, meth, c, Q, A, nL⟩ := X
  intro H locs ls hP hD hS hl
  subst hp
  have hts := C.2.2.1
  have hK := C.2.2.2.2.1
  have hA := C.2.2.2.2.2.1
  have hAb := C.2.2.2.2.2.2.2.2.1
  have hR' : R = rm := C.2.2.2.2.2.2.2.2.2.1
  have hg := C.2.2.2.2.2.2.2.2.2.2.2.1
  subst hR'
  have hsz : G.2.2 ≤ H.size := by
    have h1 := hAb s.heap.size (hA _ (Nat.le_refl _))
    exact Nat.le_trans h1 hS.1
  have hDb : va_D (fun x => G.2.2 ≤ x) (wl_ 151 (am_ ad p q) (ceX G (am_ ad p q)) μ) := hD.weaken (fun _ x _ h => hAb x.1 h)
  have hgH : gk_ G s H := gk_kept hg (fun a h1 h2 => hS.2.1 a h1 (fun x => h2 (hAb a x)))
  have hF : ∀ x, va_A (wl_ 151 (am_ ad p q) (ceX G (am_ ad p q)) μ) H.size x → A x := fun x h => by
    rcases h with ⟨j, e9, h⟩ | h
    · exact hD.2 j _ h
    · exact hA x (Nat.le_trans hS.1 h)
  have hpre : ∀ U : State, U.heap = H → s.WarmedH U.vm → pr_ G 151 (am_ ad p q) (ceX G (am_ ad p q)) μ H.size U := fun U hU hW9 => ⟨by rw [hU], by rw [hU]; exact hP, va_K.moved hW9.alike hK, hDb, hsz, by rw [hU]; exact gk_warm hW9 hgH⟩
  have hM9 := c_copyOf (G := G) (ad := am_ ad p q) (ce := ceX G (am_ ad p q)) μ 142 (by decide) (fun row => ceX_142 _ _ row) e h0 h1 hy l H.size
  have hpreV : ∀ U : State, U.heap = H → s.WarmedH U.vm → va_Pc [.ref (am_ ad p q 142), .int (iI e)] (pr_ G 151 (am_ ad p q) (ceX G (am_ ad p q)) μ H.size) ([Value.ref (am_ ad p q 142), .int (iI e)] : List Value).toArray U := fun U hU hW9 => ⟨rfl, hpre U hU hW9⟩
  refine va_callr (va_runS (rest := [.ref (am_ ad p q 141)]) ⟨C.1, C.2.1, C.2.2.2.2.2.2.1, C.2.2.2.1, hts⟩ hM9 ⟨callB_of 2 hts (gT_in ca_J7_copyOf_9075b.2.1) rfl rfl rfl (hts _ ca_J7_copyOf_9075b.1) (hts _ w_647) ca_J7_copyOf_9075b.2.2 ⟨hR.1, hR.2⟩, hts _ cs_J7_copyOf_9075b⟩ ⟨(fun a U g mk x => by obtain ⟨q0, q1, qP, qK, qD, q2, q3⟩ := x; exact ⟨q0, q1, qP, va_K.moved (u := U) (U := U.calling g mk a) (Vm.Alike.refl U.vm) qK, qD, q2, gk_same (u := U) (U := U.calling g mk a) rfl q3⟩), hpreV⟩ rfl rfl hl.1 rfl (lv_room (Nat.le_of_ble_eq_true rfl)) d1 hf) hS (fun x _ h => hF x h) hF (fun u ra t H1 locs1 ht hvm hw hB hz1 hk1 hS1 => ?_)
  obtain ⟨hP1, hK1, hD1⟩ := hB
  rw [ht] at hP1
  have hD2 := hD1.weaken (fun _ x _ h => hF x.1 h)
  refine va_put (C := "java/lang/StringBuilder") (T := TJ4) (N := 4) (ref := "java/lang/AbstractStringBuilder") (ty := .array .byte) C.1 C.2.1 C.2.2.1 in_J4 tyJ4 tyJ4_ok nmJ4 C.2.2.2.1 C.2.2.2.2.1 hP1 hD2 hS1 141 ((wl_get (show 141 < 152 by decide)).trans (by rw [c9_ne (by decide), ceX_141]; rfl)) rfl 0 (by decide) (C.2.2.1 _ w_281) (fun x h9 => h9) rfl rfl rfl rfl (by show 0 < 4; decide) d2 (fun H2 locs2 hP2 hD3 hS2 => ?_)
  obtain ⟨hP4, hD4⟩ := wl_map (w2 := wl_ 151 (am_ ad ra q) (ceX G (am_ ad ra q)) (um_ μ 142 (gx_ μ 142 e))) (fun k => if k = 142 then 151 else k) (fun i j x y hx hy e => by
      have hi : i < 151 := by
        rcases Nat.lt_or_ge i 151 with z | z
        · exact z
        · rw [List.getElem?_eq_none (by unfold wl_; rw [List.length_map, List.length_range]; omega)] at hx; cases hx
      have hj : j < 151 := by
        rcases Nat.lt_or_ge j 151 with z | z
        · exact z
        · rw [List.getElem?_eq_none (by unfold wl_; rw [List.length_map, List.length_range]; omega)] at hy; cases hy
      by_cases h3 : i = 142 <;> by_cases h4 : j = 142 <;> simp only [h3, h4, if_true, if_false] at e <;> omega) (fun i x hx => by
      have hi : i < 151 := by
        rcases Nat.lt_or_ge i 151 with z | z
        · exact z
        · rw [List.getElem?_eq_none (by unfold wl_; rw [List.length_map, List.length_range]; omega)] at hx; cases hx
      rw [wl_get hi] at hx
      obtain rfl := Option.some.inj hx
      by_cases h3 : i = 142
      · subst h3
        rw [if_pos rfl, List.getElem?_set_ne (by decide), wl_get (show 151 < 152 by decide), um_self, um_self, ceX_142]
        rfl
      · rw [if_neg h3]
        by_cases h4 : i = 141
        · subst h4
          rw [List.getElem?_set_self (by unfold wl_; rw [List.length_map, List.length_range]; decide), um_ne (by decide), um_ne (by decide), ceX_141]
          rfl
        · have ea : ∀ j, j ≠ 142 → am_ ad ra q j = am_ ad p q j := fun j hj => by
            unfold am_
            rw [beq9 hj]
            rfl
          rw [List.getElem?_set_ne (Ne.symm h4), wl_get (show i < 152 by omega), a9_ne (by omega), c9_ne (by omega), um_ne (by omega), um_ne h3, ea i h3, ceX_c 142 141 (by decide) ea i hi h4]) hP2 hD3
  exact kk ra q _ h H2 locs2 ls hP4 hD4 hS2 hl
set_option maxRecDepth 100000 in
theorem xx_grow149 {G : gp_} {X : ct_} {ad : Nat → Nat} {p q : Nat} {μ : mu_T} {k n pc : Nat} {lv : List (Nat × Value)} {cc : ByteArray} {rm : Room} {ret : Option FieldType} {nl : Nat} {α : Type} {r : α} (C : cx_ G X cc "java/lang/AbstractStringBuilder" rm ret nl) (p1 : Nat) (hp : pc + 6 = p1) {e : Int} {f : mu_T → Option α} (hf : k + 1 ≤ rm.cells ∧ n + 70 ≤ rm.slots) (hR : 2 ≤ rm.frames ∧ 8 + (3 + 11) + 40 ≤ rm.locals) (d1 : decode cc pc = .ok (.invokestatic 108, 3)) (d2 : decode cc (pc + 3) = .ok (.putfield 15, 3)) (h : gw_ μ 150 e f = some r) (kk : ∀ p1' q1' μ1, f μ1 = some r → wx_ G X 151 (am_ ad p1' q1') (ceX G (am_ ad p1' q1')) μ1 (k + 1) (n + 70) p1 lv []) : wx_ G X 151 (am_ ad p q) (ceX G (am_ ad p q)) μ k n pc lv [.int (iI e), .ref (am_ ad p q 150), .ref (am_ ad p q 149)] := by
  obtain ⟨⟨⟨h0, h1⟩, hall⟩, h⟩ := ck_e h
  have hy : ∀ j : Nat, (j : Int) < bl_ μ 150 → -128 ≤ μ 150 j ∧ μ 150 j ≤ 127 := fun j hj => by
    have := List.all_eq_true.mp hall j (List.mem_range.mpr (by omega))
    simp only [Bool.and_eq_true, decide_eq_true_eq] at this
    exact this
  obtain ⟨p9, l, e9, R, s, m, args, below, meth, c, Q, A, nL⟩ := X
  intro H locs ls hP hD hS hl
  subst hp
  have hts := C.2.2.1
  have hK := C.2.2.2.2.1
  have hA := C.2.2.2.2.2.1
  have hAb := C.2.2.2.2.2.2.2.2.1
  have hR' : R = rm := C.2.2.2.2.2.2.2.2.2.1
  have hg := C.2.2.2.2.2.2.2.2.2.2.2.1
  subst hR'
  have hsz : G.2.2 ≤ H.size := by
    have h1 := hAb s.heap.size (hA _ (Nat.le_refl _))
    exact Nat.le_trans h1 hS.1
  have hDb : va_D (fun x => G.2.2 ≤ x) (wl_ 151 (am_ ad p q) (ceX G (am_ ad p q)) μ) := hD.weaken (fun _ x _ h => hAb x.1 h)
  have hgH : gk_ G s H := gk_kept hg (fun a h1 h2 => hS.2.1 a h1 (fun x => h2 (hAb a x)))
  have hF : ∀ x, va_A (wl_ 151 (am_ ad p q) (ceX G (am_ ad p q)) μ) H.size x → A x := fun x h => by
    rcases h with ⟨j, e9, h⟩ | h
    · exact hD.2 j _ h
    · exact hA x (Nat.le_trans hS.1 h)
  have hpre : ∀ U : State, U.heap = H → s.WarmedH U.vm → pr_ G 151 (am_ ad p q) (ceX G (am_ ad p q)) μ H.size U := fun U hU hW9 => ⟨by rw [hU], by rw [hU]; exact hP, va_K.moved hW9.alike hK, hDb, hsz, by rw [hU]; exact gk_warm hW9 hgH⟩
  have hM9 := c_copyOf (G := G) (ad := am_ ad p q) (ce := ceX G (am_ ad p q)) μ 150 (by decide) (fun row => ceX_150 _ _ row) e h0 h1 hy l H.size
  have hpreV : ∀ U : State, U.heap = H → s.WarmedH U.vm → va_Pc [.ref (am_ ad p q 150), .int (iI e)] (pr_ G 151 (am_ ad p q) (ceX G (am_ ad p q)) μ H.size) ([Value.ref (am_ ad p q 150), .int (iI e)] : List Value).toArray U := fun U hU hW9 => ⟨rfl, hpre U hU hW9⟩
  refine va_callr (va_runS (rest := [.ref (am_ ad p q 149)]) ⟨C.1, C.2.1, C.2.2.2.2.2.2.1, C.2.2.2.1, hts⟩ hM9 ⟨callB_of 2 hts (gT_in ca_J7_copyOf_9075b.2.1) rfl rfl rfl (hts _ ca_J7_copyOf_9075b.1) (hts _ w_647) ca_J7_copyOf_9075b.2.2 ⟨hR.1, hR.2⟩, hts _ cs_J7_copyOf_9075b⟩ ⟨(fun a U g mk x => by obtain ⟨q0, q1, qP, qK, qD, q2, q3⟩ := x; exact ⟨q0, q1, qP, va_K.moved (u := U) (U := U.calling g mk a) (Vm.Alike.refl U.vm) qK, qD, q2, gk_same (u := U) (U := U.calling g mk a) rfl q3⟩), hpreV⟩ rfl rfl hl.1 rfl (lv_room (Nat.le_of_ble_eq_true rfl)) d1 hf) hS (fun x _ h => hF x h) hF (fun u ra t H1 locs1 ht hvm hw hB hz1 hk1 hS1 => ?_)
  obtain ⟨hP1, hK1, hD1⟩ := hB
  rw [ht] at hP1
  have hD2 := hD1.weaken (fun _ x _ h => hF x.1 h)
  refine va_put (C := "java/lang/StringBuilder") (T := TJ4) (N := 4) (ref := "java/lang/AbstractStringBuilder") (ty := .array .byte) C.1 C.2.1 C.2.2.1 in_J4 tyJ4 tyJ4_ok nmJ4 C.2.2.2.1 C.2.2.2.2.1 hP1 hD2 hS1 149 ((wl_get (show 149 < 152 by decide)).trans (by rw [c9_ne (by decide), ceX_149]; rfl)) rfl 0 (by decide) (C.2.2.1 _ w_281) (fun x h9 => h9) rfl rfl rfl rfl (by show 0 < 4; decide) d2 (fun H2 locs2 hP2 hD3 hS2 => ?_)
  obtain ⟨hP4, hD4⟩ := wl_map (w2 := wl_ 151 (am_ ad p ra) (ceX G (am_ ad p ra)) (um_ μ 150 (gx_ μ 150 e))) (fun k => if k = 150 then 151 else k) (fun i j x y hx hy e => by
      have hi : i < 151 := by
        rcases Nat.lt_or_ge i 151 with z | z
        · exact z
        · rw [List.getElem?_eq_none (by unfold wl_; rw [List.length_map, List.length_range]; omega)] at hx; cases hx
      have hj : j < 151 := by
        rcases Nat.lt_or_ge j 151 with z | z
        · exact z
        · rw [List.getElem?_eq_none (by unfold wl_; rw [List.length_map, List.length_range]; omega)] at hy; cases hy
      by_cases h3 : i = 150 <;> by_cases h4 : j = 150 <;> simp only [h3, h4, if_true, if_false] at e <;> omega) (fun i x hx => by
      have hi : i < 151 := by
        rcases Nat.lt_or_ge i 151 with z | z
        · exact z
        · rw [List.getElem?_eq_none (by unfold wl_; rw [List.length_map, List.length_range]; omega)] at hx; cases hx
      rw [wl_get hi] at hx
      obtain rfl := Option.some.inj hx
      by_cases h3 : i = 150
      · subst h3
        rw [if_pos rfl, List.getElem?_set_ne (by decide), wl_get (show 151 < 152 by decide), um_self, um_self, ceX_150]
        rfl
      · rw [if_neg h3]
        by_cases h4 : i = 149
        · subst h4
          rw [List.getElem?_set_self (by unfold wl_; rw [List.length_map, List.length_range]; decide), um_ne (by decide), um_ne (by decide), ceX_149]
          rfl
        · have ea : ∀ j, j ≠ 150 → am_ ad p ra j = am_ ad p q j := fun j hj => by
            unfold am_
            rw [beq9 hj]
            rfl
          rw [List.getElem?_set_ne (Ne.symm h4), wl_get (show i < 152 by omega), a9_ne (by omega), c9_ne (by omega), um_ne (by omega), um_ne h3, ea i h3, ceX_c 150 149 (by decide) ea i hi h4]) hP2 hD3
  exact kk p ra _ h H2 locs2 ls hP4 hD4 hS2 hl
