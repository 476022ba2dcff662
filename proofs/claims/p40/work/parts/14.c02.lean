/-! the law reads its script, and carries an order in (written by wip/gen40/lawgen.py) -/
theorem w_399 : Cond.constant "UrnHeapLaw" 7 (40503) ∈ gT_ := gm_ 399 (by decide +kernel)
theorem w_396 : Cond.methodLink "UrnHeapLaw" 8 yL_cell ∈ gT_ := gm_ 396 (by decide +kernel)
theorem w_819 : Cond.methodLink "UrnHeapLaw" 14 yJ0_length_8abf5 ∈ gT_ := gm_ 819 (by decide +kernel)
theorem w_865 : Cond.methodLink "UrnHeapLaw" 30 yX11_run ∈ gT_ := gm_ 865 (by decide +kernel)
theorem w_820 : Cond.methodLink "UrnHeapLaw" 20 yJ0_charAt_5068e ∈ gT_ := gm_ 820 (by decide +kernel)
theorem w_844 : Cond.methodLink "UrnHeapLaw" 24 yX11_append ∈ gT_ := gm_ 844 (by decide +kernel)
theorem w_398 : Cond.code yL_cell cL_cell 2 (some .int) ∈ gT_ := gm_ 398 (by decide +kernel)
theorem w_397 : Cond.static yL_cell ∈ gT_ := gm_ 397 (by decide +kernel)
theorem w_395 : Cond.code yL_pick cL_pick 3 (some .int) ∈ gT_ := gm_ 395 (by decide +kernel)
theorem w_394 : Cond.static yL_pick ∈ gT_ := gm_ 394 (by decide +kernel)
theorem w_818 : Cond.code yL_runs cL_runs 4 (some .int) ∈ gT_ := gm_ 818 (by decide +kernel)
theorem w_817 : Cond.static yL_runs ∈ gT_ := gm_ 817 (by decide +kernel)
theorem w_868 : Cond.code yX11_run cX11_run 3 (some .int) ∈ gT_ := gm_ 868 (by decide +kernel)
theorem w_866 : Cond.instanceMethod yX11_run ∈ gT_ := gm_ 866 (by decide +kernel)
theorem w_867 : Cond.selects "UrnHeap" yX11_run yX11_run ∈ gT_ := gm_ 867 (by decide +kernel)
theorem w_847 : Cond.code yX11_append cX11_append 2 (some .int) ∈ gT_ := gm_ 847 (by decide +kernel)
theorem w_845 : Cond.instanceMethod yX11_append ∈ gT_ := gm_ 845 (by decide +kernel)
theorem w_846 : Cond.selects "UrnHeap" yX11_append yX11_append ∈ gT_ := gm_ 846 (by decide +kernel)
theorem ca_L_cell : ca_ yL_cell cL_cell 2 (some .int) 2 := ⟨w_24, w_398, by decide, by decide, by decide +kernel⟩
theorem cs_L_cell : Cond.static yL_cell ∈ gT_ := w_397
theorem ca_L_pick : ca_ yL_pick cL_pick 3 (some .int) 3 := ⟨w_24, w_395, by decide, by decide, by decide +kernel⟩
theorem cs_L_pick : Cond.static yL_pick ∈ gT_ := w_394
theorem ca_L_runs : ca_ yL_runs cL_runs 4 (some .int) 2 := ⟨w_24, w_818, by decide, by decide, by decide +kernel⟩
theorem cs_L_runs : Cond.static yL_runs ∈ gT_ := w_817
theorem ca_X11_run : ca_ yX11_run cX11_run 3 (some .int) 0 := ⟨w_25, w_868, by decide, by decide, by decide +kernel⟩
theorem cv_X11_run : cv_ yX11_run := ⟨w_866, w_867⟩
theorem ca_X11_append : ca_ yX11_append cX11_append 2 (some .int) 1 := ⟨w_25, w_847, by decide, by decide, by decide +kernel⟩
theorem cv_X11_append : cv_ yX11_append := ⟨w_845, w_846⟩
/-- the script: read only -/
def sx_ (X : ct_) (b L : Nat) (xs : Nat → Int32) : Prop := match X with
  | (_, _, _, _, s, _, _, _, _, _, _, A, _) => va_X b L xs s s.heap ∧ b < s.heap.size ∧ ¬ A b
def px_ (G : gp_) (w : va_W) (b L : Nat) (xs : Nat → Int32) (sz : Nat) (U : State) : Prop := pw_ G w sz U ∧ va_X b L xs U U.heap ∧ b < sz ∧ ¬ va_A w sz b
/-- a contract of a method that reads the script -/
def ms_9 (y : MethodName) (bytes : ByteArray) (maxL : Nat) (ret : Option FieldType) (rm : Room) (G : gp_) (av : List Value) (w0 : va_W) (b L : Nat) (xs : Nat → Int32) (Q : (Nat → Prop) → Array Value → State → Outcome → State → Prop) : Prop := ∀ (l : Launch) (sz : Nat), Met l y (Cond.code y bytes maxL ret :: gT_) rm (va_Pc av (px_ G w0 b L xs sz)) (Q (va_A w0 sz)) rm.cells rm.slots (va_A w0 sz)
theorem ms_in {y : MethodName} {bytes : ByteArray} {maxL : Nat} {ret : Option FieldType} {rm : Room} {G : gp_} {av : List Value} {w0 : va_W} {b L : Nat} {xs : Nat → Int32} {Q : (Nat → Prop) → Array Value → State → Outcome → State → Prop} {own : String} (hy : plainName y.cls = true) (hown : y.cls = own) (hn : (lg_sl av).length ≤ maxL) (body : ∀ X : ct_, cx_ G X bytes own rm ret maxL → sx_ X b L xs → eg_ X rm Q → wv_ G X w0 0 0 0 (lv_args 0 av) []) : ms_9 y bytes maxL ret rm G av w0 b L xs Q := by
  intro l sz
  refine Met.ofW (cc := bytes) (maxL := maxL) (ret := ret) hy rfl ?_
  intro p9 e9 s m args below meth c s₁ B hml hv
  obtain ⟨rfl, ⟨hsz, hP, hK, hD0, hbs, hg⟩, hX, hb1, hb2⟩ := hv
  subst hsz
  have hts := atoms_spec (ws := Cond.code y bytes maxL ret :: gT_) B.pre
  have hfc : s.vm.findClass y.cls = some m.cls := findClass_of_methodNamed B.named
  rw [lg_entry_eq]
  have hl := lv_entry av hn
  have hAb : ∀ x, va_A w0 s.heap.size x → G.2.2 ≤ x := fun x h => by
    rcases h with ⟨k, e, h⟩ | h
    · exact hD0.2 k _ h
    · exact Nat.le_trans hbs h
  exact body (p9, l, e9, (headSpec (Cond.code y bytes maxL ret :: gT_) rm).room, s, m, av.toArray, below, meth, c, _, va_A w0 s.heap.size, maxL)
    ⟨B.exec, B.bytes, fun w hw => hts w (List.mem_cons_of_mem _ hw), hown ▸ hfc, hK, fun q h => Or.inr h, hml, B.notSynchronized, hAb, rfl, B.returns, hg, rfl⟩ ⟨hX, hb1, hb2⟩ rfl s.heap [] _ (by rw [wl_L]; exact hP) (by rw [wl_L]; exact hD0.self (sz := s.heap.size)) va_S.rf hl
section XV
variable {G : gp_} {X : ct_} {ws w0 : va_W} {j : va_W → va_W} {k n pc : Nat} {lv lv1 : List (Nat × Value)} {st stk : List Value} {cc : ByteArray} {own : String} {rm : Room} {ret : Option FieldType} {nl : Nat}
theorem xw_cXi (C : cx_ G X cc own rm ret nl) {b L : Nat} {xs : Nat → Int32} (Sx : sx_ X b L xs) (p1 : Nat) (hp : pc + 3 = p1) (hsp : sw_ G.1 ws w0 j) {y : MethodName} {bytes : ByteArray} {maxL nA index : Nat} {ret2 : Option FieldType} {rm2 : Room} {As : List Value} {S : Type} {w1 : S → va_W} (hca : ca_ y bytes maxL ret2 nA) (hcs : Cond.static y ∈ gT_) (m1 : Cond.methodLink own index y ∈ gT_) (hn : As.length = nA) (hR : rm2.frames + 1 ≤ rm.frames ∧ 8 + (maxL + 11) + rm2.locals ≤ rm.locals) (hf : k + rm2.cells ≤ rm.cells ∧ n + rm2.slots ≤ rm.slots) (hW : (st.map fun v => v.category).sum ≤ 8) (d : decode cc pc = .ok (.invokestatic index, 3)) {av1 : Int} (hM : ms_9 y bytes maxL ret2 rm2 G As w0 b L xs (fun A => qwi_ G A av1 w1)) (kk : ∀ u : S, wv_ G X (j (w1 u)) (k + rm2.cells) (n + rm2.slots) p1 lv (.int (iI av1) :: st)) (hst : stk = As.reverse ++ st) : wv_ G X ws k n pc lv stk := by
  obtain ⟨p9, l, e, R, s, m, args, below, meth, c, Q, A, nL⟩ := X
  intro H locs ls hP hD hS hl
  rw [wl_L] at hP hD
  subst hp
  have hts := C.2.2.1
  have hK := C.2.2.2.2.1
  have hA := C.2.2.2.2.2.1
  have hAb := C.2.2.2.2.2.2.2.2.1
  have hR' : R = rm := C.2.2.2.2.2.2.2.2.2.1
  have hg := C.2.2.2.2.2.2.2.2.2.2.2.1
  subst hR'
  have hsz : G.2.2 ≤ H.size := by
    have h1 := hAb s.heap.size (hA _ (Nat.le_refl _))
    exact Nat.le_trans h1 hS.1
  have hP0 := hsp.1 H hP
  have hD0 := hsp.2.1 A hD
  have hDb : va_D (fun x => G.2.2 ≤ x) w0 := hD0.weaken (fun _ x _ h => hAb x.1 h)
  have hgH : gk_ G s H := gk_kept hg (fun a h1 h2 => hS.2.1 a h1 (fun x => h2 (hAb a x)))
  have hF : ∀ x, va_A w0 H.size x → A x := fun x h => by
    rcases h with ⟨j, e9, h⟩ | h
    · exact hD0.2 j _ h
    · exact hA x (Nat.le_trans hS.1 h)
  have hpre : ∀ U : State, U.heap = H → s.WarmedH U.vm → pw_ G w0 H.size U := fun U hU hW9 => ⟨by rw [hU], by rw [hU]; exact hP0, va_K.moved hW9.alike hK, hDb, hsz, by rw [hU]; exact gk_warm hW9 hgH⟩
  subst hst
  have hM9 := hM l H.size
  have hpreV : ∀ U : State, U.heap = H → s.WarmedH U.vm → va_Pc As (px_ G w0 b L xs H.size) As.toArray U := fun U hU hW9 => ⟨rfl, hpre U hU hW9, by rw [hU]; exact va_X.moved hW9.alike (va_X.kept Sx.1 (hS.2.1 b Sx.2.1 Sx.2.2)), Nat.lt_of_lt_of_le Sx.2.1 hS.1, fun z => Sx.2.2 (hF b z)⟩
  refine va_calli (va_runS (rest := st) ⟨C.1, C.2.1, C.2.2.2.2.2.2.1, C.2.2.2.1, hts⟩ hM9 ⟨callB_of nA hts (gT_in hca.2.1) rfl rfl rfl (hts _ hca.1) (hts _ m1) hca.2.2 hR, hts _ hcs⟩ ⟨(fun a U g mk x => by obtain ⟨q0, ⟨q1, qP, qK, qD, q2, q3⟩, q4, q5⟩ := x; exact ⟨q0, ⟨q1, qP, va_K.moved (u := U) (U := U.calling g mk a) (Vm.Alike.refl U.vm) qK, qD, q2, gk_same (u := U) (U := U.calling g mk a) rfl q3⟩, va_X.moved (u := U) (U := U.calling g mk a) (Vm.Alike.refl U.vm) q4, q5⟩), hpreV⟩ rfl hn hl.1 rfl (lv_room hW) d hf) hS (fun x _ h => hF x h) hF (fun r9 u t H1 locs1 ht hvm hw hB hz1 hk1 hS1 => ?_)
  obtain ⟨hP1, hK1, hD1⟩ := hB
  rw [ht] at hP1
  rw [hw]
  obtain ⟨hP2, hD2⟩ := hsp.2.2 A H H1 _ hP hD hk1 hF hP1 hD1
  exact kk u H1 locs1 ls (by rw [wl_L]; exact hP2) (by rw [wl_L]; exact hD2) hS1 hl
theorem xx_slen (C : cx_ G X cc own rm ret nl) {N : Nat} {ad : Nat → Nat} {ce : Nat → (Int → Int) → va_E} {μ : mu_T} {b L : Nat} {xs : Nat → Int32} (Sx : sx_ X b L xs) (p1 : Nat) (hp : pc + 1 = p1) (d : decode cc pc = .ok (.arraylength, 1)) (h : wx_ G X N ad ce μ k n p1 lv (.int (iI (L : Nat)) :: st)) : wx_ G X N ad ce μ k n pc lv (.ref b :: st) := by
  obtain ⟨p, l, e, R, s, m, args, below, meth, c, Q, A, nL⟩ := X
  intro H locs ls hP hD hS hl
  subst hp
  exact va_slen C.1 C.2.1 Sx.1 Sx.2.1 Sx.2.2 hS d (h H locs ls hP hD hS hl)
theorem xx_sld (C : cx_ G X cc own rm ret nl) {N : Nat} {ad : Nat → Nat} {ce : Nat → (Int → Int) → va_E} {μ : mu_T} {b L : Nat} {xs : Nat → Int32} (Sx : sx_ X b L xs) (p1 : Nat) (hp : pc + 1 = p1) (i : Nat) (hij : i < L) (hL : L < 2147483648) (d : decode cc pc = .ok (.iaload, 1)) (h : wx_ G X N ad ce μ k n p1 lv (.int (iI (xs i).toInt) :: st)) : wx_ G X N ad ce μ k n pc lv (.int (iI (i : Nat)) :: .ref b :: st) := by
  obtain ⟨p, l, e, R, s, m, args, below, meth, c, Q, A, nL⟩ := X
  intro H locs ls hP hD hS hl
  subst hp
  refine va_sld C.1 C.2.1 Sx.1 Sx.2.1 Sx.2.2 hS (iI_in (by omega) (by omega) hL) d ?_
  have e1 : (iI (i : Int)).toNatClampNeg = i := by rw [iI_clamp (by omega)]; omega
  rw [e1, ← iI_of (xs i)]
  exact h H locs ls hP hD hS hl
end XV
/-- a cell of the script, or behind its end -/
def ce_9 (xs : Nat → Int32) (L k : Nat) : Int := if k < L then (xs k).toInt else 40503 * (k : Int)
def pk_9 (xs : Nat → Int32) (L k n : Nat) : Int := (su_ (ce_9 xs L k) 1).tmod (n : Int)
theorem su_1 (x : Int) : 0 ≤ su_ x 1 ∧ su_ x 1 ≤ 2147483647 := by
  have e1 : ((iI x).toUInt32 >>> ((iI 1).toUInt32 &&& Int32.toUInt32 31)).toNat = (iI x).toUInt32.toNat / 2 := by
    rw [show ((iI 1).toUInt32 &&& Int32.toUInt32 31) = 1 from by decide +kernel, UInt32.toNat_shiftRight]
    show (iI x).toUInt32.toNat >>> ((1 : UInt32).toNat % 32) = _
    rw [show ((1 : UInt32).toNat % 32) = 1 from rfl, Nat.shiftRight_eq_div_pow]
  have h1 := (iI x).toUInt32.toNat_lt
  unfold su_
  generalize hz : (iI x).toUInt32 >>> ((iI 1).toUInt32 &&& Int32.toUInt32 31) = z at e1 ⊢
  have hz2 : z.toNat < 2147483648 := by omega
  have e2 : z.toInt32.toInt = (z.toNat : Int) := by
    show z.toBitVec.toInt = _
    exact BitVec.toInt_eq_toNat_of_lt (by have h9 : z.toBitVec.toNat = z.toNat := rfl; omega)
  rw [e2]
  omega
theorem pk_r (xs : Nat → Int32) (L k : Nat) {n : Nat} (hn : 0 < n) : 0 ≤ pk_9 xs L k n ∧ pk_9 xs L k n < n := by
  have h := (su_1 (ce_9 xs L k)).1
  unfold pk_9
  rw [Int.tmod_eq_emod_of_nonneg h]
  exact ⟨Int.emod_nonneg _ (by omega), Int.emod_lt_of_pos _ (by omega)⟩
theorem dL_cell_0 : decode cL_cell 0 = .ok (.iload_n 1, 1) := by decide +kernel
theorem dL_cell_1 : decode cL_cell 1 = .ok (.aload_n 0, 1) := by decide +kernel
theorem dL_cell_2 : decode cL_cell 2 = .ok (.arraylength, 1) := by decide +kernel
theorem dL_cell_3 : decode cL_cell 3 = .ok (.if_icmp .ge 9, 3) := by decide +kernel
theorem dL_cell_6 : decode cL_cell 6 = .ok (.aload_n 0, 1) := by decide +kernel
theorem dL_cell_7 : decode cL_cell 7 = .ok (.iload_n 1, 1) := by decide +kernel
theorem dL_cell_8 : decode cL_cell 8 = .ok (.iaload, 1) := by decide +kernel
theorem dL_cell_9 : decode cL_cell 9 = .ok (.goto 7, 3) := by decide +kernel
theorem dL_cell_12 : decode cL_cell 12 = .ok (.ldc 7, 2) := by decide +kernel
theorem dL_cell_14 : decode cL_cell 14 = .ok (.iload_n 1, 1) := by decide +kernel
theorem dL_cell_15 : decode cL_cell 15 = .ok (.imul, 1) := by decide +kernel
theorem dL_cell_16 : decode cL_cell 16 = .ok (.ireturn, 1) := by decide +kernel
set_option maxHeartbeats 4000000 in
set_option maxRecDepth 100000 in
theorem c_cell {G : gp_} {b L : Nat} {xs : Nat → Int32} (hL : L ≤ 260) {k : Nat} (hk : k < 1000) : ms_9 yL_cell cL_cell 2 (some .int) ({ frames := 0, cells := 0, slots := 0, locals := 0 } : Room) G [.ref b, .int (iI (k : Nat))] [] b L xs (fun A => qwi_ G A (ce_9 xs L k) (fun (_ : Unit) => [])) := by
  refine ms_in (own := "UrnHeapLaw") (by decide) rfl (by exact Nat.le_of_ble_eq_true rfl) (fun X C Sx E => ?_)
  show wv_ G X [] 0 0 0 [(0, .ref b), (1, .int (iI (k : Nat)))] []
  refine xx_iload_n C 1 rfl 1 dL_cell_0 rfl rfl ?_
  refine xx_aload_n C 2 rfl 0 dL_cell_1 rfl rfl ?_
  refine xx_slen C Sx 3 rfl dL_cell_2 ?_
  by_cases h : k < L
  · refine xx_icmp_ge (tgt := 12) (t := none) (f := some ()) (r := ()) C 6 rfl dL_cell_3 (by decide) (by unfold lt_; rw [if_pos ⟨⟨by omega, by omega⟩, by omega, by omega⟩, if_pos (by omega)]) (fun h => nn_ h) (fun _ => ?_)
    refine xx_aload_n C 7 rfl 0 dL_cell_6 rfl rfl ?_
    refine xx_iload_n C 8 rfl 1 dL_cell_7 rfl rfl ?_
    refine xx_sld C Sx 9 rfl k h (by omega) dL_cell_8 ?_
    refine xx_goto C 16 dL_cell_9 (by decide) ?_
    rw [show (xs k).toInt = ce_9 xs L k from (if_pos h).symm]
    exact xw_reti C E rfl () rfl ⟨(by exact Nat.le_of_ble_eq_true rfl), (by exact Nat.le_of_ble_eq_true rfl)⟩ dL_cell_16
  · refine xx_icmp_ge (tgt := 12) (t := some ()) (f := none) (r := ()) C 6 rfl dL_cell_3 (by decide) (by unfold lt_; rw [if_pos ⟨⟨by omega, by omega⟩, by omega, by omega⟩, if_neg (by omega)]) (fun _ => ?_) (fun h => nn_ h)
    refine xx_ldci (v := 40503) C 14 rfl w_399 dL_cell_12 ?_
    refine xx_iload_n C 15 rfl 1 dL_cell_14 rfl rfl ?_
    refine xx_imul C 16 rfl dL_cell_15 ?_
    rw [show (40503 : Int) * (k : Int) = ce_9 xs L k from (if_neg h).symm]
    exact xw_reti C E rfl () rfl ⟨(by exact Nat.le_of_ble_eq_true rfl), (by exact Nat.le_of_ble_eq_true rfl)⟩ dL_cell_16
theorem dL_pick_0 : decode cL_pick 0 = .ok (.aload_n 0, 1) := by decide +kernel
theorem dL_pick_1 : decode cL_pick 1 = .ok (.iload_n 1, 1) := by decide +kernel
theorem dL_pick_2 : decode cL_pick 2 = .ok (.invokestatic 8, 3) := by decide +kernel
theorem dL_pick_5 : decode cL_pick 5 = .ok (.iconst 1, 1) := by decide +kernel
theorem dL_pick_6 : decode cL_pick 6 = .ok (.iushr, 1) := by decide +kernel
theorem dL_pick_7 : decode cL_pick 7 = .ok (.iload_n 2, 1) := by decide +kernel
theorem dL_pick_8 : decode cL_pick 8 = .ok (.irem, 1) := by decide +kernel
theorem dL_pick_9 : decode cL_pick 9 = .ok (.ireturn, 1) := by decide +kernel
set_option maxHeartbeats 4000000 in
set_option maxRecDepth 100000 in
theorem c_pick {G : gp_} {b L : Nat} {xs : Nat → Int32} (hL : L ≤ 260) {k n : Nat} (hk : k < 1000) (hn : 0 < n) (hn2 : n < 2000) : ms_9 yL_pick cL_pick 3 (some .int) ({ frames := 1, cells := 0, slots := 0, locals := 21 } : Room) G [.ref b, .int (iI (k : Nat)), .int (iI (n : Nat))] [] b L xs (fun A => qwi_ G A (pk_9 xs L k n) (fun (_ : Unit) => [])) := by
  refine ms_in (own := "UrnHeapLaw") (by decide) rfl (by exact Nat.le_of_ble_eq_true rfl) (fun X C Sx E => ?_)
  show wv_ G X [] 0 0 0 [(0, .ref b), (1, .int (iI (k : Nat))), (2, .int (iI (n : Nat)))] []
  refine xx_aload_n C 1 rfl 0 dL_pick_0 rfl rfl ?_
  refine xx_iload_n C 2 rfl 1 dL_pick_1 rfl rfl ?_
  refine xw_cXi (As := [.ref b, .int (iI (k : Nat))]) (st := []) C Sx 5 rfl sw_a ca_L_cell cs_L_cell w_396 rfl ⟨(by exact Nat.le_of_ble_eq_true rfl), (by exact Nat.le_of_ble_eq_true rfl)⟩ ⟨(by exact Nat.le_of_ble_eq_true rfl), (by exact Nat.le_of_ble_eq_true rfl)⟩ (by exact Nat.le_of_ble_eq_true rfl) dL_pick_2 (c_cell hL hk) (fun _ => ?_) rfl
  refine xx_iconst C 6 rfl dL_pick_5 ?_
  refine xx_iushr C 7 rfl dL_pick_6 ?_
  refine xx_iload_n C 8 rfl 2 dL_pick_7 rfl rfl ?_
  refine xx_irem (f := fun v => if v = pk_9 xs L k n then some () else none) (r := ()) C 9 rfl dL_pick_8 (by unfold rm_; rw [if_pos ⟨⟨by have := (su_1 (ce_9 xs L k)).1; omega, (su_1 (ce_9 xs L k)).2⟩, ⟨by omega, by omega⟩, by omega⟩]; exact if_pos rfl) (fun v hv => ?_)
  obtain rfl := (ck_e hv).1
  exact xw_reti C E rfl () rfl ⟨(by exact Nat.le_of_ble_eq_true rfl), (by exact Nat.le_of_ble_eq_true rfl)⟩ dL_pick_9
theorem dL_runs_0 : decode cL_runs 0 = .ok (.iconst 0, 1) := by decide +kernel
theorem dL_runs_1 : decode cL_runs 1 = .ok (.istore_n 2, 1) := by decide +kernel
theorem dL_runs_2 : decode cL_runs 2 = .ok (.iload_n 2, 1) := by decide +kernel
theorem dL_runs_3 : decode cL_runs 3 = .ok (.aload_n 1, 1) := by decide +kernel
theorem dL_runs_4 : decode cL_runs 4 = .ok (.invokevirtual 14, 3) := by decide +kernel
theorem dL_runs_7 : decode cL_runs 7 = .ok (.if_icmp .ge 19, 3) := by decide +kernel
theorem dL_runs_10 : decode cL_runs 10 = .ok (.aload_n 0, 1) := by decide +kernel
theorem dL_runs_11 : decode cL_runs 11 = .ok (.aload_n 1, 1) := by decide +kernel
theorem dL_runs_12 : decode cL_runs 12 = .ok (.iload_n 2, 1) := by decide +kernel
theorem dL_runs_13 : decode cL_runs 13 = .ok (.invokevirtual 20, 3) := by decide +kernel
theorem dL_runs_16 : decode cL_runs 16 = .ok (.invokevirtual 24, 3) := by decide +kernel
theorem dL_runs_19 : decode cL_runs 19 = .ok (.istore_n 3, 1) := by decide +kernel
theorem dL_runs_20 : decode cL_runs 20 = .ok (.iinc 2 1, 3) := by decide +kernel
theorem dL_runs_23 : decode cL_runs 23 = .ok (.goto (-21), 3) := by decide +kernel
theorem dL_runs_26 : decode cL_runs 26 = .ok (.aload_n 0, 1) := by decide +kernel
theorem dL_runs_27 : decode cL_runs 27 = .ok (.invokevirtual 30, 3) := by decide +kernel
theorem dL_runs_30 : decode cL_runs 30 = .ok (.ireturn, 1) := by decide +kernel
/-- a text is carried in, sign by sign -/
def ap_9 (tx : Int → Int) : Nat → Int → mu_T → Option mu_T
  | 0, _, μ => some μ
  | m + 1, i, μ => bp_ (f_X11_appendg μ (tx i)) (fun _ μ1 => ap_9 tx m (i + 1) μ1)
set_option maxHeartbeats 4000000 in
set_option maxRecDepth 100000 in
theorem l_runs {G : gp_} {X : ct_} {ad at9 : Nat → Nat} {τ : mu_T} {n : Nat} {tx : Int → Int} {r : Int} {μr : mu_T} (hn : n ≤ 16) (hlen : f_J0_length_8abf5_o1 τ = some (n : Int)) (hch : ∀ i : Nat, i < n → f_J0_charAt_5068e_o1 τ (i : Int) = some (tx (i : Int))) (C : cx_ G X cL_runs "UrnHeapLaw" ({ frames := 10, cells := 16, slots := 1120, locals := 227 } : Room) (some .int) 4) (E : eg_ X ({ frames := 10, cells := 16, slots := 1120, locals := 227 } : Room) (fun A => qwi_ G A r (fun (u : Nat × Nat) => wl_ 151 (am_ ad u.1 u.2) (ceX G (am_ ad u.1 u.2)) μr ++ wl_ 2 at9 (ceT G at9) τ))) : ∀ (m i p q k z : Nat) (μ : mu_T), m + i = n → k + m ≤ 16 ∧ z + 70 * m ≤ 1120 → bd_ (ap_9 tx m (i : Int) μ) (fun μ1 => f_X11_run μ1) = some (r, μr) → wv_ G X (wl_ 151 (am_ ad p q) (ceX G (am_ ad p q)) μ ++ wl_ 2 at9 (ceT G at9) τ) k z 2 [(2, .int (iI (i : Nat))), (0, .ref (ad 132)), (1, .ref (at9 1))] [] := by
  intro m
  induction m with
  | zero =>
    intro i p q k z μ hi hk h
    refine xx_iload_n C 3 rfl 0 dL_runs_2 rfl rfl ?_
    refine xx_aload_n C 4 rfl 2 dL_runs_3 rfl rfl ?_
    refine xw_cVi (As := []) (st := [.int (iI (i : Nat))]) C 7 rfl sw_r (yapp_r (k := 1) rfl) rfl rfl ca_J0_length_8abf5 cv_J0_length_8abf5 w_819 rfl ⟨(by exact Nat.le_of_ble_eq_true rfl), (by exact Nat.le_of_ble_eq_true rfl)⟩ ⟨by show k + 0 ≤ 16; omega, by show z + 0 ≤ 1120; omega⟩ (by exact Nat.le_of_ble_eq_true rfl) dL_runs_4 (mw_i (c_J0_length_8abf5_o1 (G := G) (ad := at9) τ (n : Int) hlen)) (fun _ => ?_) rfl
    refine xx_icmp_ge (tgt := 26) (t := some ()) (f := none) (r := ()) C 10 rfl dL_runs_7 (by decide) (by unfold lt_; rw [if_pos ⟨⟨by omega, by omega⟩, by omega, by omega⟩, if_neg (by omega)]) (fun _ => ?_) (fun h => nn_ h)
    refine xx_aload_n C 27 rfl 1 dL_runs_26 rfl rfl ?_
    refine xw_cVi (As := []) (st := []) C 30 rfl sw_l (i0 := 132) (a := ad 132) (yapp_l ((wl_get (by decide)).trans (by rw [ceX_132]; rfl))) rfl rfl ca_X11_run cv_X11_run w_865 rfl ⟨(by exact Nat.le_of_ble_eq_true rfl), (by exact Nat.le_of_ble_eq_true rfl)⟩ ⟨by show k + 0 + 0 ≤ 16; omega, by show z + 0 + 0 ≤ 1120; omega⟩ (by exact Nat.le_of_ble_eq_true rfl) dL_runs_27 (mw_i (c_X11_run (G := G) (ad := am_ ad p q) μ r μr h)) (fun _ => ?_) rfl
    exact xw_reti C E rfl (p, q) rfl ⟨by show k + 0 + 0 ≤ 16; omega, by show z + 0 + 0 ≤ 1120; omega⟩ dL_runs_30
  | succ m ih =>
    intro i p q k z μ hi hk h
    obtain ⟨μ0, h0, h1⟩ := bd_e h
    obtain ⟨a2, μ2, h2, h3⟩ := bp_e h0
    refine xx_iload_n C 3 rfl 0 dL_runs_2 rfl rfl ?_
    refine xx_aload_n C 4 rfl 2 dL_runs_3 rfl rfl ?_
    refine xw_cVi (As := []) (st := [.int (iI (i : Nat))]) C 7 rfl sw_r (yapp_r (k := 1) rfl) rfl rfl ca_J0_length_8abf5 cv_J0_length_8abf5 w_819 rfl ⟨(by exact Nat.le_of_ble_eq_true rfl), (by exact Nat.le_of_ble_eq_true rfl)⟩ ⟨by show k + 0 ≤ 16; omega, by show z + 0 ≤ 1120; omega⟩ (by exact Nat.le_of_ble_eq_true rfl) dL_runs_4 (mw_i (c_J0_length_8abf5_o1 (G := G) (ad := at9) τ (n : Int) hlen)) (fun _ => ?_) rfl
    refine xx_icmp_ge (tgt := 26) (t := none) (f := some ()) (r := ()) C 10 rfl dL_runs_7 (by decide) (by unfold lt_; rw [if_pos ⟨⟨by omega, by omega⟩, by omega, by omega⟩, if_pos (by omega)]) (fun h => nn_ h) (fun _ => ?_)
    refine xx_aload_n C 11 rfl 1 dL_runs_10 rfl rfl ?_
    refine xx_aload_n C 12 rfl 2 dL_runs_11 rfl rfl ?_
    refine xx_iload_n C 13 rfl 0 dL_runs_12 rfl rfl ?_
    refine xw_cVi (As := [.int (iI (i : Nat))]) (st := [.ref (ad 132)]) C 16 rfl sw_r (yapp_r (k := 1) rfl) rfl rfl ca_J0_charAt_5068e cv_J0_charAt_5068e w_820 rfl ⟨(by exact Nat.le_of_ble_eq_true rfl), (by exact Nat.le_of_ble_eq_true rfl)⟩ ⟨by show k + 0 + 0 ≤ 16; omega, by show z + 0 + 0 ≤ 1120; omega⟩ (by exact Nat.le_of_ble_eq_true rfl) dL_runs_13 (mw_i (c_J0_charAt_5068e_o1 (G := G) (ad := at9) τ (i : Int) (tx (i : Int)) (hch i (by omega)))) (fun _ => ?_) rfl
    refine xw_cVi (As := [.int (iI (tx (i : Int)))]) (st := []) C 19 rfl sw_l (i0 := 132) (a := ad 132) (yapp_l ((wl_get (by decide)).trans (by rw [ceX_132]; rfl))) rfl rfl ca_X11_append cv_X11_append w_844 rfl ⟨(by exact Nat.le_of_ble_eq_true rfl), (by exact Nat.le_of_ble_eq_true rfl)⟩ ⟨by show k + 0 + 0 + 1 ≤ 16; omega, by show z + 0 + 0 + 70 ≤ 1120; omega⟩ (by exact Nat.le_of_ble_eq_true rfl) dL_runs_16 (mw_g (c_X11_appendg p q μ (tx (i : Int)) a2 μ2 h2)) (fun u => ?_) rfl
    refine xx_istore_n (lv1 := [(3, .int (iI a2)), (2, .int (iI (i : Nat))), (0, .ref (ad 132)), (1, .ref (at9 1))]) C 20 rfl (by decide) dL_runs_19 rfl rfl ?_
    refine xx_iincn (f := fun z => if z = (i + 1 : Nat) then some () else none) (r := ()) C 23 rfl 1 (by decide) dL_runs_20 rfl (by unfold nm_; exact if_pos (by omega)) (fun z9 hz => ?_)
    obtain rfl := (ck_e hz).1
    refine xx_goto C 2 dL_runs_23 (by decide) ?_
    refine xx_sub (lv1 := [(2, .int (iI (i + 1 : Nat))), (0, .ref (ad 132)), (1, .ref (at9 1))]) [0, 2, 3] rfl ?_
    refine ih (i + 1) u.1 u.2 _ _ μ2 (by omega) ⟨by show k + 0 + 0 + 1 + m ≤ 16; omega, by show z + 0 + 0 + 70 + 70 * m ≤ 1120; omega⟩ ?_
    rw [show ((i + 1 : Nat) : Int) = (i : Int) + 1 by omega, h3]
    exact h1

set_option maxHeartbeats 4000000 in
set_option maxRecDepth 100000 in
theorem c_runs {G : gp_} {ad at9 : Nat → Nat} {p q : Nat} {μ τ : mu_T} {n : Nat} {tx : Int → Int} {r : Int} {μr : mu_T} (hn : n ≤ 16) (hlen : f_J0_length_8abf5_o1 τ = some (n : Int)) (hch : ∀ i : Nat, i < n → f_J0_charAt_5068e_o1 τ (i : Int) = some (tx (i : Int))) (h : bd_ (ap_9 tx n 0 μ) (fun μ1 => f_X11_run μ1) = some (r, μr)) : mw_ yL_runs cL_runs 4 (some .int) ({ frames := 10, cells := 16, slots := 1120, locals := 227 } : Room) G [.ref (ad 132), .ref (at9 1)] (wl_ 151 (am_ ad p q) (ceX G (am_ ad p q)) μ ++ wl_ 2 at9 (ceT G at9) τ) (fun A => qwi_ G A r (fun (u : Nat × Nat) => wl_ 151 (am_ ad u.1 u.2) (ceX G (am_ ad u.1 u.2)) μr ++ wl_ 2 at9 (ceT G at9) τ)) := by
  refine mw_in (own := "UrnHeapLaw") (by decide) rfl (by exact Nat.le_of_ble_eq_true rfl) (fun X C _ E => ?_)
  show wv_ G X (wl_ 151 (am_ ad p q) (ceX G (am_ ad p q)) μ ++ wl_ 2 at9 (ceT G at9) τ) 0 0 0 [(0, .ref (ad 132)), (1, .ref (at9 1))] []
  refine xx_iconst C 1 rfl dL_runs_0 ?_
  refine xx_istore_n (lv1 := [(2, .int (iI (0 : Nat))), (0, .ref (ad 132)), (1, .ref (at9 1))]) C 2 rfl (by decide) dL_runs_1 rfl rfl ?_
  exact l_runs hn hlen hch C E n 0 p q 0 0 μ (by omega) ⟨by omega, by omega⟩ h
