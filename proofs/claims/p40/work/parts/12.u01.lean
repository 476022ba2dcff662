/-! the text builder and the string of the law's orders (written by wip/gen40/rows9.py) -/
def ceS (G : gp_) (ad : Nat → Nat) (k : Nat) (row : Int → Int) : va_E := match k with
  | 0 => .inr (1, [.ref (ad 1), .int (iI (row 1)), .int (iI (row 2)), .int (iI (row 3))])
  | _ => .inl (G.1.1 101, (row (-1)).toNat, .inl (fun j => iI (row (j : Nat))))
def ceT (G : gp_) (ad : Nat → Nat) (k : Nat) (row : Int → Int) : va_E := match k with
  | 0 => .inl (G.1.1 101, (row (-1)).toNat, .inl (fun j => iI (row (j : Nat))))
  | _ => .inr (0, [.ref (ad 0), .int (iI (row 1)), .int (iI (row 2)), .int (iI (row 3))])
theorem ceS_0 (G : gp_) (ad : Nat → Nat) (row : Int → Int) : ceS G ad 0 row = .inr (1, [.ref (ad 1), .int (iI (row 1)), .int (iI (row 2)), .int (iI (row 3))]) := rfl
theorem ceT_1 (G : gp_) (ad : Nat → Nat) (row : Int → Int) : ceT G ad 1 row = .inr (0, [.ref (ad 0), .int (iI (row 1)), .int (iI (row 2)), .int (iI (row 3))]) := rfl
theorem puS_3 (G : gp_) (ad : Nat → Nat) (row : Int → Int) (v : Int) : ceS G ad 0 (ur_ row 3 v) = .inr (1, ([.ref (ad 1), .int (iI (row 1)), .int (iI (row 2)), .int (iI (row 3))] : List Value).set 3 (.int (iI v))) := rfl
/-- a call that answers with a reference to a cell of its world -/
def qo_ (G : gp_) (N : Nat) (ad : Nat → Nat) (ce : Nat → (Int → Int) → va_E) (A : Nat → Prop) (o : Nat) (μ : mu_T) : Array Value → State → Outcome → State → Prop := va_Qr (fun (_ : Unit) => True) (fun _ b t => b = ad o ∧ po_ G N ad ce A μ t) A
def mo_ (y : MethodName) (cc : ByteArray) (maxL : Nat) (ret : Option FieldType) (rm : Room) (G : gp_) (N : Nat) (ad : Nat → Nat) (ce : Nat → (Int → Int) → va_E) (av : List Value) (μ : mu_T) (o : Nat) (μ1 : mu_T) : Prop := ∀ (l : Launch) (sz : Nat), Met l y (Cond.code y cc maxL ret :: gT_) rm (va_Pc av (pr_ G N ad ce μ sz)) (qo_ G N ad ce (va_A (wl_ N ad ce μ) sz) o μ1) rm.cells rm.slots (va_A (wl_ N ad ce μ) sz)
def eo_ (G : gp_) (X : ct_) (N : Nat) (ad : Nat → Nat) (ce : Nat → (Int → Int) → va_E) (o : Nat) (μ : mu_T) (rm : Room) : Prop := match X with
  | (_, _, _, _, s, _, args, below, _, _, Q, A, _) => Q = MQ below (qo_ G N ad ce A o μ) args s rm.cells rm.slots A
theorem mo_in {y : MethodName} {cc : ByteArray} {maxL : Nat} {ret : Option FieldType} {rm : Room} {G : gp_} {N : Nat} {ad : Nat → Nat} {ce : Nat → (Int → Int) → va_E} {av : List Value} {μ μ1 : mu_T} {o : Nat} {own : String} {lv : List (Nat × Value)} (hy : plainName y.cls = true) (hown : y.cls = own) (hlv : lv_args 0 av = lv) (hn : (lg_sl av).length ≤ maxL) (body : ∀ X : ct_, cx_ G X cc own rm ret maxL → eo_ G X N ad ce o μ1 rm → wx_ G X N ad ce μ 0 0 0 lv []) : mo_ y cc maxL ret rm G N ad ce av μ o μ1 := fun l sz => mq_in (Qc := fun A => qo_ G N ad ce A o μ1) hy hown hlv hn (fun X C E => body X C E) l sz
/-- bytes of a constant string are copied -/
def as_ {α : Type} (μ : mu_T) (z sp : Int) (q2 : Nat) (dp len : Int) (f : mu_T → Option α) : Option α := if (0 ≤ z ∧ z < 16) ∧ (0 ≤ sp ∧ 0 ≤ len ∧ sp + len ≤ sn_ z) ∧ (0 ≤ dp ∧ dp + len ≤ bl_ μ q2 ∧ bl_ μ q2 ≤ 100000) then f (um_ μ q2 (fun j => if dp ≤ j ∧ j < dp + len then sc_ z (sp + (j - dp)) else μ q2 j)) else none
theorem sc_rg : ∀ z : Nat, z < 16 → ∀ i : Nat, i < 100 → -128 ≤ sc_ (z : Int) (i : Int) ∧ sc_ (z : Int) (i : Int) ≤ 127 := by decide +kernel
theorem fits_b {z : Int} (h : -128 ≤ z ∧ z ≤ 127) : fits .byte (.int (iI z)) = true := by
  have e1 : (-128 : Int32) = iI (-128) := by decide +kernel
  have e2 : (127 : Int32) = iI 127 := by decide +kernel
  have h1 : (-128 : Int32) ≤ iI z := by rw [e1]; exact (iI_le (a := -128) (b := z) (by decide) (by omega)).mpr h.1
  have h2 : iI z ≤ (127 : Int32) := by rw [e2]; exact (iI_le (a := z) (b := 127) (by omega) (by decide)).mpr h.2
  show (decide ((-128 : Int32) ≤ iI z) && decide (iI z ≤ (127 : Int32))) = true
  rw [decide_eq_true h1, decide_eq_true h2]
  rfl
def rB_ (v : Int) : Option Int := if v = 0 then some v else none
section XS
variable {G : gp_} {X : ct_} {N : Nat} {ad : Nat → Nat} {ce : Nat → (Int → Int) → va_E} {μ : mu_T} {k n pc : Nat} {lv lv1 : List (Nat × Value)} {st stk : List Value} {cc : ByteArray} {own : String} {rm : Room} {ret : Option FieldType} {nl : Nat} {α : Type} {r : α}
theorem xx_aret (C : cx_ G X cc own rm ret nl) {o : Nat} {μ2 : mu_T} (E : eo_ G X N ad ce o μ2 rm) (hr : (∃ cn : String, ret = some (.object cn)) ∨ ret = some (.array .byte)) (hk : k ≤ rm.cells ∧ n ≤ rm.slots) (d : decode cc pc = .ok (.areturn, 1)) (h : some μ = some μ2) : wx_ G X N ad ce μ k n pc lv [.ref (ad o)] := by
  obtain ⟨p9, l, e, R, s, m, args, below, meth, c, Q, A, nL⟩ := X
  intro H locs ls hP hD hS hl
  obtain rfl := Option.some.inj h
  obtain ⟨hx, hb, -, -, hK, -, -, hlocks, -, -, hrt, -, -⟩ := C
  rw [show Q = _ from E]
  refine W.widen hk.1 hk.2 ?_
  rcases hr with ⟨cn, rfl⟩ | rfl
  · exact W.aret hx hb hrt (Or.inl ⟨_, rfl⟩) (Or.inr ⟨_, rfl⟩) (fun t ht hW => ⟨⟨(), _, rfl, trivial, rfl, by rw [ht]; exact hP, va_K.moved hW.alike hK, hD⟩, hS.F ht⟩) hS.2.2 d hlocks
  · exact W.aret hx hb hrt (Or.inr ⟨_, rfl⟩) (Or.inr ⟨_, rfl⟩) (fun t ht hW => ⟨⟨(), _, rfl, trivial, rfl, by rw [ht]; exact hP, va_K.moved hW.alike hK, hD⟩, hS.F ht⟩) hS.2.2 d hlocks
theorem xx_bretp (C : cx_ G X cc own rm ret nl) {e0 a : Int} (E : ei_ G X N ad ce a μ rm) (hr : ret = some .byte) (hk : k ≤ rm.cells ∧ n ≤ rm.slots) (d : decode cc pc = .ok (.ireturn, 1)) (h : rB_ e0 = some a) : wx_ G X N ad ce μ k n pc lv [.int (iI e0)] := by
  obtain ⟨hz, h⟩ := ck_e h
  subst hz
  exact xx_zret C E hr rfl hk d (by rw [Option.some.inj h])
theorem xx_acopyS (C : cx_ G X cc own rm ret nl) (p1 : Nat) (hp : pc + 3 = p1) {q2 index : Nat} {z sp dp len : Int} {f : mu_T → Option α} (hq2 : q2 < N) (he2 : ∀ row, ce q2 row = .inl (G.1.1 101, (row (-1)).toNat, .inl (fun j => iI (row (j : Nat))))) (hw : Cond.methodLink own index arraycopyName ∈ gT_ ∧ Cond.native arraycopyName ∈ gT_ ∧ Cond.static arraycopyName ∈ gT_ ∧ Cond.initialized "java/lang/System" ∈ gT_) (hR : 1 ≤ rm.frames ∧ (st.map fun v => v.category).sum + (nativeFrameWords "java/lang/System" "arraycopy" 5 + 11) ≤ rm.locals) (d : decode cc pc = .ok (.invokestatic index, 3)) (h : as_ μ z sp q2 dp len f = some r) (kk : ∀ μ1, f μ1 = some r → wx_ G X N ad ce μ1 k n p1 lv st) : wx_ G X N ad ce μ k n pc lv (.int (iI len) :: .int (iI dp) :: .ref (ad q2) :: .int (iI sp) :: .ref (G.2.1 (300 + (z : Int).toNat)) :: st) := by
  obtain ⟨p, l, e, R, s, m, args, below, meth, c, Q, A, nL⟩ := X
  intro H locs ls hP hD hS hl
  subst hp
  obtain ⟨⟨⟨hz0, hz1⟩, ⟨g1, g3, g4⟩, g2, g5, g6⟩, h⟩ := ck_e h
  have hAb := C.2.2.2.2.2.2.2.2.1
  have hg := C.2.2.2.2.2.2.2.2.2.2.2.1
  have hE := (hg.1 z.toNat (by omega)).narrow (B := A) hAb
  have hR' : R = rm := C.2.2.2.2.2.2.2.2.2.1
  have hlen : (skl_.getD z.toNat []).length < 100 := skl_len _ (by omega)
  have hlen2 : sn_ z < 100 := by
    unfold sn_
    omega
  have hs1 : sp.toNat + len.toNat ≤ (skl_.getD z.toNat []).length := by
    unfold sn_ at g4
    omega
  have hb1 : bl_ μ q2 = ((μ q2 (-1)).toNat : Int) := rfl
  have z0 : ∀ {z : Int}, 0 ≤ z → z ≤ 2147483647 → ¬ iI z < 0 := fun {z} h1 h2 q => by
    have := (iI_lt (a := z) (b := 0) (by omega) (by decide)).mp q
    omega
  have c1 : (iI sp).toNatClampNeg = sp.toNat := iI_clamp (by omega)
  have c2 : (iI dp).toNatClampNeg = dp.toNat := iI_clamp (by omega)
  have c3 : (iI len).toNatClampNeg = len.toNat := iI_clamp (by omega)
  have hv : ∀ i : Nat, i < (skl_.getD z.toNat []).length → ((skl_.getD z.toNat []).map iI).getD i 0 = iI (sc_ z (i : Int)) := fun i hi => by
    unfold sc_
    generalize skl_.getD z.toNat [] = L9 at hi ⊢
    rw [List.getD_eq_getElem?_getD, List.getElem?_map, List.getD_eq_getElem?_getD, Int.toNat_natCast, List.getElem?_eq_getElem hi]
    rfl
  refine vk_copyt C.1 C.2.1 (C.2.2.2.2.2.2.1.trans hl.1.symm) C.2.2.2.1 (C.2.2.1 _ hw.1) (C.2.2.1 _ hw.2.1) (C.2.2.1 _ hw.2.2.1) (C.2.2.1 _ hw.2.2.2) C.2.2.2.2.1 hP hD hS (hE.1 0 (by decide)).2.2.2 q2 1 ((wl_get hq2).trans (by rw [he2])) rfl (z0 g1 (by omega)) (z0 g2 (by omega)) (z0 g3 (by omega)) (by rw [c1, c3]; exact hs1) (by rw [c2, c3]; omega) (fun i hi => ?_) (by rw [hR']; exact hR.1) (by rw [hR']; exact hR.2) d (fun H1 locs1 hP1 hD1 hS1 => ?_)
  · rw [c3] at hi
    rw [c1]
    show fits .byte (.int (((skl_.getD z.toNat []).map iI).getD (sp.toNat + i) 0)) = true
    rw [hv _ (by omega)]
    have q := sc_rg z.toNat (by omega) (sp.toNat + i) (by omega)
    rw [show ((z.toNat : Nat) : Int) = z by omega] at q
    exact fits_b q
  · have e1 : va_cpy (fun j : Nat => ((([(skl_.getD z.toNat []).map iI] : List (List Int32)).getD 0 []).getD j 0)) (fun j : Nat => iI (μ q2 (j : Int))) (iI sp).toNatClampNeg (iI dp).toNatClampNeg (iI len).toNatClampNeg = fun j : Nat => iI ((fun j : Int => if dp ≤ j ∧ j < dp + len then sc_ z (sp + (j - dp)) else μ q2 j) (j : Int)) := by
      funext j
      rw [c1, c2, c3]
      unfold va_cpy
      by_cases hj : dp.toNat ≤ j ∧ j < dp.toNat + len.toNat
      · rw [if_pos hj]
        show ((skl_.getD z.toNat []).map iI).getD _ 0 = iI (if _ then _ else _)
        rw [if_pos (by omega), hv _ (by omega)]
        congr 2
        omega
      · rw [if_neg hj]
        show iI (μ q2 _) = iI (if _ then _ else _)
        rw [if_neg (by omega)]
    rw [e1] at hP1 hD1
    have e2 : ce q2 (fun j : Int => if dp ≤ j ∧ j < dp + len then sc_ z (sp + (j - dp)) else μ q2 j) = .inl (G.1.1 101, (μ q2 (-1)).toNat, .inl (fun j : Nat => iI ((fun j : Int => if dp ≤ j ∧ j < dp + len then sc_ z (sp + (j - dp)) else μ q2 j) (j : Int)))) := by
      rw [he2]
      show Sum.inl (_, (if _ then _ else _ : Int).toNat, _) = _
      rw [if_neg (by omega)]
    rw [← e2, wl_set] at hP1 hD1
    exact kk _ h H1 locs1 ls hP1 hD1 hS1 hl
theorem xx_cVr (C : cx_ G X cc own rm ret nl) (pcn : Nat) (hp : pc + 3 = pcn) {F : Option mu_T} {f : mu_T → Option α} {y : MethodName} {bytes : ByteArray} {maxL nA index : Nat} {ret2 : Option FieldType} {rm2 : Room} {As : List Value} {ci o o2 : Nat} {fs : List Value} {qc : vw_C} (ho : o < N) (he : ce o (μ o) = .inr (ci, fs)) (hc : vwCl[ci]? = some qc) (hcl : qc.1 = y.cls) (hca : ca_ y bytes maxL ret2 nA) (hcv : cv_ y) (m1 : Cond.methodLink own index y ∈ gT_) (hn : As.length = nA) (hR : rm2.frames + 1 ≤ rm.frames ∧ 8 + (maxL + 11) + rm2.locals ≤ rm.locals) (hf : k + rm2.cells ≤ rm.cells ∧ n + rm2.slots ≤ rm.slots) (hW : (st.map fun v => v.category).sum ≤ 8) (d : decode cc pc = .ok (.invokevirtual index, 3)) (hM : ∀ μ1, F = some μ1 → mo_ y bytes maxL ret2 rm2 G N ad ce (.ref (ad o) :: As) μ o2 μ1) (h : bd_ F f = some r) (kk : ∀ μ1, f μ1 = some r → wx_ G X N ad ce μ1 (k + rm2.cells) (n + rm2.slots) pcn lv (.ref (ad o2) :: st)) (hst : stk = As.reverse ++ .ref (ad o) :: st) : wx_ G X N ad ce μ k n pc lv stk := by
  obtain ⟨p9, l, e, R, s, m, args, below, meth, c, Q, A, nL⟩ := X
  intro H locs ls hP hD hS hl
  subst hp
  have hts := C.2.2.1
  have hK := C.2.2.2.2.1
  have hA := C.2.2.2.2.2.1
  have hAb := C.2.2.2.2.2.2.2.2.1
  have hR' : R = rm := C.2.2.2.2.2.2.2.2.2.1
  have hg := C.2.2.2.2.2.2.2.2.2.2.2.1
  subst hR'
  have hsz : G.2.2 ≤ H.size := by
    have h1 := hAb s.heap.size (hA _ (Nat.le_refl _))
    exact Nat.le_trans h1 hS.1
  have hDb : va_D (fun x => G.2.2 ≤ x) (wl_ N ad ce μ) := hD.weaken (fun _ x _ h => hAb x.1 h)
  have hgH : gk_ G s H := gk_kept hg (fun a h1 h2 => hS.2.1 a h1 (fun x => h2 (hAb a x)))
  have hF : ∀ x, va_A (wl_ N ad ce μ) H.size x → A x := fun x h => by
    rcases h with ⟨j, e9, h⟩ | h
    · exact hD.2 j _ h
    · exact hA x (Nat.le_trans hS.1 h)
  have hpre : ∀ U : State, U.heap = H → s.WarmedH U.vm → pr_ G N ad ce μ H.size U := fun U hU hW9 => ⟨by rw [hU], by rw [hU]; exact hP, va_K.moved hW9.alike hK, hDb, hsz, by rw [hU]; exact gk_warm hW9 hgH⟩
  subst hst
  obtain ⟨μ9, e9, h⟩ := bd_e h
  have hM9 := hM μ9 e9 l H.size
  have hpreV : ∀ U : State, U.heap = H → s.WarmedH U.vm → va_Pc (.ref (ad o) :: As) (pr_ G N ad ce μ H.size) (Value.ref (ad o) :: As).toArray U := fun U hU hW9 => ⟨rfl, hpre U hU hW9⟩
  refine va_callr (va_runV (rest := st) ⟨C.1, C.2.1, C.2.2.2.2.2.2.1, C.2.2.2.1, hts⟩ hM9 ⟨callB_of nA hts (gT_in hca.2.1) rfl rfl rfl (hts _ hca.1) (hts _ m1) hca.2.2 hR, hts _ hcv.1, hts _ hcv.2⟩ ⟨(fun a U g mk x => by obtain ⟨q0, q1, qP, qK, qD, q2, q3⟩ := x; exact ⟨q0, q1, qP, va_K.moved (u := U) (U := U.calling g mk a) (Vm.Alike.refl U.vm) qK, qD, q2, gk_same (u := U) (U := U.calling g mk a) rfl q3⟩), (by have h9 := va_recv hK hP hc ((wl_get ho).trans (by rw [he])); rw [hcl] at h9; exact h9), hpreV⟩ rfl hn hl.1 rfl (lv_room hW) d hf) hS (fun x _ h => hF x h) hF (fun u ra t H1 locs1 ht hvm hw hB hz1 hk1 hS1 => ?_)
  obtain ⟨hra, hP1, hK1, hD1⟩ := hB
  rw [ht] at hP1
  rw [hra]
  exact kk μ9 h H1 locs1 ls hP1 (hD1.weaken (fun _ x _ h => hF x.1 h)) hS1 hl
theorem xx_cPr (C : cx_ G X cc own rm ret nl) (pcn : Nat) (hp : pc + 3 = pcn) {F : Option mu_T} {f : mu_T → Option α} {y : MethodName} {bytes : ByteArray} {maxL nA index : Nat} {ret2 : Option FieldType} {rm2 : Room} {As : List Value} {ci o o2 : Nat} {fs : List Value} {qc : vw_C} (ho : o < N) (he : ce o (μ o) = .inr (ci, fs)) (hc : vwCl[ci]? = some qc) (hca : ca_ y bytes maxL ret2 nA) (hcu : cu_ y) (hsup : Cond.superclass own y.cls ∈ gT_) (m1 : Cond.methodLink own index y ∈ gT_) (hn : As.length = nA) (hR : rm2.frames + 1 ≤ rm.frames ∧ 8 + (maxL + 11) + rm2.locals ≤ rm.locals) (hf : k + rm2.cells ≤ rm.cells ∧ n + rm2.slots ≤ rm.slots) (hW : (st.map fun v => v.category).sum ≤ 8) (d : decode cc pc = .ok (.invokespecial index, 3)) (hM : ∀ μ1, F = some μ1 → mo_ y bytes maxL ret2 rm2 G N ad ce (.ref (ad o) :: As) μ o2 μ1) (h : bd_ F f = some r) (kk : ∀ μ1, f μ1 = some r → wx_ G X N ad ce μ1 (k + rm2.cells) (n + rm2.slots) pcn lv (.ref (ad o2) :: st)) (hst : stk = As.reverse ++ .ref (ad o) :: st) : wx_ G X N ad ce μ k n pc lv stk := by
  obtain ⟨p9, l, e, R, s, m, args, below, meth, c, Q, A, nL⟩ := X
  intro H locs ls hP hD hS hl
  subst hp
  have hts := C.2.2.1
  have hK := C.2.2.2.2.1
  have hA := C.2.2.2.2.2.1
  have hAb := C.2.2.2.2.2.2.2.2.1
  have hR' : R = rm := C.2.2.2.2.2.2.2.2.2.1
  have hg := C.2.2.2.2.2.2.2.2.2.2.2.1
  subst hR'
  have hsz : G.2.2 ≤ H.size := by
    have h1 := hAb s.heap.size (hA _ (Nat.le_refl _))
    exact Nat.le_trans h1 hS.1
  have hDb : va_D (fun x => G.2.2 ≤ x) (wl_ N ad ce μ) := hD.weaken (fun _ x _ h => hAb x.1 h)
  have hgH : gk_ G s H := gk_kept hg (fun a h1 h2 => hS.2.1 a h1 (fun x => h2 (hAb a x)))
  have hF : ∀ x, va_A (wl_ N ad ce μ) H.size x → A x := fun x h => by
    rcases h with ⟨j, e9, h⟩ | h
    · exact hD.2 j _ h
    · exact hA x (Nat.le_trans hS.1 h)
  have hpre : ∀ U : State, U.heap = H → s.WarmedH U.vm → pr_ G N ad ce μ H.size U := fun U hU hW9 => ⟨by rw [hU], by rw [hU]; exact hP, va_K.moved hW9.alike hK, hDb, hsz, by rw [hU]; exact gk_warm hW9 hgH⟩
  subst hst
  obtain ⟨μ9, e9, h⟩ := bd_e h
  have hM9 := hM μ9 e9 l H.size
  have hpreV : ∀ U : State, U.heap = H → s.WarmedH U.vm → va_Pc (.ref (ad o) :: As) (pr_ G N ad ce μ H.size) (Value.ref (ad o) :: As).toArray U := fun U hU hW9 => ⟨rfl, hpre U hU hW9⟩
  refine va_callr (va_runSU (hK.1 ci _ hc).2 (rest := st) ⟨C.1, C.2.1, C.2.2.2.2.2.2.1, C.2.2.2.1, hts⟩ hM9 ⟨⟨rfl, rfl, hR.1, hR.2, pay_in hts (gT_in hca.2.1), List.mem_cons_self⟩, hts _ m1, hts _ hcu.1, hts _ hsup, hts _ hcu.2.1, hts _ hca.1, hts _ hca.2.1, hcu.2.2, (fun sig h9 => by have h2 := hca.2.2.2.2; rw [h9] at h2; exact (Option.some.inj h2).symm)⟩ ⟨(fun a U g mk x => by obtain ⟨q0, q1, qP, qK, qD, q2, q3⟩ := x; exact ⟨q0, q1, qP, va_K.moved (u := U) (U := U.calling g mk a) (Vm.Alike.refl U.vm) qK, qD, q2, gk_same (u := U) (U := U.calling g mk a) rfl q3⟩), va_recv hK hP hc ((wl_get ho).trans (by rw [he])), hpreV⟩ rfl hn hl.1 rfl (lv_room hW) d hf) hS (fun x _ h => hF x h) hF (fun u ra t H1 locs1 ht hvm hw hB hz1 hk1 hS1 => ?_)
  obtain ⟨hra, hP1, hK1, hD1⟩ := hB
  rw [ht] at hP1
  rw [hra]
  exact kk μ9 h H1 locs1 ls hP1 (hD1.weaken (fun _ x _ h => hF x.1 h)) hS1 hl
theorem xx_cUr (C : cx_ G X cc own rm ret nl) (pcn : Nat) (hp : pc + 3 = pcn) {F : Option mu_T} {f : mu_T → Option α} {y : MethodName} {bytes : ByteArray} {maxL nA index : Nat} {ret2 : Option FieldType} {rm2 : Room} {As : List Value} {ci o o2 : Nat} {fs : List Value} {qc : vw_C} (ho : o < N) (he : ce o (μ o) = .inr (ci, fs)) (hc : vwCl[ci]? = some qc) (hca : ca_ y bytes maxL ret2 nA) (hcu : cu_ y) (hse : se_ G qc.1 y y) (m1 : Cond.methodLink own index y ∈ gT_) (hn : As.length = nA) (hR : rm2.frames + 1 ≤ rm.frames ∧ 8 + (maxL + 11) + rm2.locals ≤ rm.locals) (hf : k + rm2.cells ≤ rm.cells ∧ n + rm2.slots ≤ rm.slots) (hW : (st.map fun v => v.category).sum ≤ 8) (d : decode cc pc = .ok (.invokevirtual index, 3)) (hM : ∀ μ1, F = some μ1 → mo_ y bytes maxL ret2 rm2 G N ad ce (.ref (ad o) :: As) μ o2 μ1) (h : bd_ F f = some r) (kk : ∀ μ1, f μ1 = some r → wx_ G X N ad ce μ1 (k + rm2.cells) (n + rm2.slots) pcn lv (.ref (ad o2) :: st)) (hst : stk = As.reverse ++ .ref (ad o) :: st) : wx_ G X N ad ce μ k n pc lv stk := by
  obtain ⟨p9, l, e, R, s, m, args, below, meth, c, Q, A, nL⟩ := X
  intro H locs ls hP hD hS hl
  subst hp
  have hts := C.2.2.1
  have hK := C.2.2.2.2.1
  have hA := C.2.2.2.2.2.1
  have hAb := C.2.2.2.2.2.2.2.2.1
  have hR' : R = rm := C.2.2.2.2.2.2.2.2.2.1
  have hg := C.2.2.2.2.2.2.2.2.2.2.2.1
  subst hR'
  have hsz : G.2.2 ≤ H.size := by
    have h1 := hAb s.heap.size (hA _ (Nat.le_refl _))
    exact Nat.le_trans h1 hS.1
  have hDb : va_D (fun x => G.2.2 ≤ x) (wl_ N ad ce μ) := hD.weaken (fun _ x _ h => hAb x.1 h)
  have hgH : gk_ G s H := gk_kept hg (fun a h1 h2 => hS.2.1 a h1 (fun x => h2 (hAb a x)))
  have hF : ∀ x, va_A (wl_ N ad ce μ) H.size x → A x := fun x h => by
    rcases h with ⟨j, e9, h⟩ | h
    · exact hD.2 j _ h
    · exact hA x (Nat.le_trans hS.1 h)
  have hpre : ∀ U : State, U.heap = H → s.WarmedH U.vm → pr_ G N ad ce μ H.size U := fun U hU hW9 => ⟨by rw [hU], by rw [hU]; exact hP, va_K.moved hW9.alike hK, hDb, hsz, by rw [hU]; exact gk_warm hW9 hgH⟩
  subst hst
  obtain ⟨μ9, e9, h⟩ := bd_e h
  have hM9 := hM μ9 e9 l H.size
  have hpreV : ∀ U : State, U.heap = H → s.WarmedH U.vm → va_Pc (.ref (ad o) :: As) (pr_ G N ad ce μ H.size) (Value.ref (ad o) :: As).toArray U := fun U hU hW9 => ⟨rfl, hpre U hU hW9⟩
  refine va_callr (va_runU (C := qc.1) (owner := y.cls) (rest := st) ⟨C.1, C.2.1, C.2.2.2.2.2.2.1, C.2.2.2.1, hts⟩ hM9 ⟨⟨rfl, rfl, hR.1, hR.2, pay_in hts (gT_in hca.2.1), List.mem_cons_self⟩, hts _ hca.2.1, hts _ hca.1, ⟨hca.2.2.1, hca.2.2.2.1⟩, (fun sig h9 => by have h2 := hca.2.2.2.2; rw [h9] at h2; exact (Option.some.inj h2).symm), hts _ m1, hts _ hcu.1, va_Decl.of (hts _ hcu.2.1) (hts _ hca.2.1), hse s s.heap args hts hg, hts _ hcu.2.1⟩ ⟨(fun a U g mk x => by obtain ⟨q0, q1, qP, qK, qD, q2, q3⟩ := x; exact ⟨q0, q1, qP, va_K.moved (u := U) (U := U.calling g mk a) (Vm.Alike.refl U.vm) qK, qD, q2, gk_same (u := U) (U := U.calling g mk a) rfl q3⟩), va_recv hK hP hc ((wl_get ho).trans (by rw [he])), hpreV⟩ rfl hn hl.1 rfl (lv_room hW) d hf) hS (fun x _ h => hF x h) hF (fun u ra t H1 locs1 ht hvm hw hB hz1 hk1 hS1 => ?_)
  obtain ⟨hra, hP1, hK1, hD1⟩ := hB
  rw [ht] at hP1
  rw [hra]
  exact kk μ9 h H1 locs1 ls hP1 (hD1.weaken (fun _ x _ h => hF x.1 h)) hS1 hl
theorem xx_cKv (C : cx_ G X cc own rm ret nl) (p1 : Nat) (hp : pc + 3 = p1) {F : Option mu_T} {f : mu_T → Option α} {y : MethodName} {bytes : ByteArray} {maxL nA index : Nat} {rm2 : Room} {As : List Value} {z : Int} (hcl : "java/lang/String" = y.cls) (hca : ca_ y bytes maxL none nA) (hcv : cv_ y) (m1 : Cond.methodLink own index y ∈ gT_) (hn : As.length = nA) (hR : rm2.frames + 1 ≤ rm.frames ∧ 8 + (maxL + 11) + rm2.locals ≤ rm.locals) (hf : k + rm2.cells ≤ rm.cells ∧ n + rm2.slots ≤ rm.slots) (hW : (st.map fun v => v.category).sum ≤ 8) (d : decode cc pc = .ok (.invokevirtual index, 3)) (hM : ∀ μ1, F = some μ1 → mv_ y bytes maxL rm2 G N ad ce (.ref (G.2.1 (200 + (z : Int).toNat)) :: As) μ μ1) (h : gd_ (0 ≤ z ∧ z < 16) (bd_ F f) = some r) (kk : ∀ μ1, f μ1 = some r → wx_ G X N ad ce μ1 (k + rm2.cells) (n + rm2.slots) p1 lv st) (hst : stk = As.reverse ++ .ref (G.2.1 (200 + (z : Int).toNat)) :: st) : wx_ G X N ad ce μ k n pc lv stk := by
  obtain ⟨p, l, e, R, s, m, args, below, meth, c, Q, A, nL⟩ := X
  intro H locs ls hP hD hS hl
  subst hp
  have hts := C.2.2.1
  have hK := C.2.2.2.2.1
  have hA := C.2.2.2.2.2.1
  have hAb := C.2.2.2.2.2.2.2.2.1
  have hR' : R = rm := C.2.2.2.2.2.2.2.2.2.1
  have hg := C.2.2.2.2.2.2.2.2.2.2.2.1
  subst hR'
  have hsz : G.2.2 ≤ H.size := by
    have h1 := hAb s.heap.size (hA _ (Nat.le_refl _))
    exact Nat.le_trans h1 hS.1
  have hDb : va_D (fun q => G.2.2 ≤ q) (wl_ N ad ce μ) := hD.weaken (fun _ q _ h => hAb q.1 h)
  have hgH : gk_ G s H := gk_kept hg (fun a h1 h2 => hS.2.1 a h1 (fun q => h2 (hAb a q)))
  have hF : ∀ q, va_A (wl_ N ad ce μ) H.size q → A q := fun q h => by
    rcases h with ⟨j, e9, h⟩ | h
    · exact hD.2 j _ h
    · exact hA q (Nat.le_trans hS.1 h)
  have hpre : ∀ U : State, U.heap = H → s.WarmedH U.vm → pr_ G N ad ce μ H.size U := fun U hU hW9 => ⟨by rw [hU], by rw [hU]; exact hP, va_K.moved hW9.alike hK, hDb, hsz, by rw [hU]; exact gk_warm hW9 hgH⟩
  subst hst
  obtain ⟨⟨hz0, hz1⟩, h⟩ := ck_e h
  obtain ⟨a9, e9, h⟩ := bd_e h
  have hM9 := hM a9 e9 l H.size
  have hpreV : ∀ U : State, U.heap = H → s.WarmedH U.vm → va_Pc (.ref (G.2.1 (200 + (z : Int).toNat)) :: As) (pr_ G N ad ce μ H.size) (Value.ref (G.2.1 (200 + (z : Int).toNat)) :: As).toArray U := fun U hU hW9 => ⟨rfl, hpre U hU hW9⟩
  refine va_callv (va_runV (rest := st) ⟨C.1, C.2.1, C.2.2.2.2.2.2.1, C.2.2.2.1, hts⟩ hM9 ⟨callB_of nA hts (gT_in hca.2.1) rfl rfl rfl (hts _ hca.1) (hts _ m1) hca.2.2 hR, hts _ hcv.1, hts _ hcv.2⟩ ⟨(fun a U g mk q => by obtain ⟨q0, q1, qP, qK, qD, q2, q3⟩ := q; exact ⟨q0, q1, qP, va_K.moved (u := U) (U := U.calling g mk a) (Vm.Alike.refl U.vm) qK, qD, q2, gk_same (u := U) (U := U.calling g mk a) rfl q3⟩), (by have h9 := vk_recv ((hg.1 z.toNat (by omega)).narrow (B := A) hAb) (i := 0) (by decide) hS; rw [hcl] at h9; exact h9), hpreV⟩ rfl hn hl.1 rfl (lv_room hW) d hf) hS (fun q _ h => hF q h) hF (fun u t H1 locs1 ht hvm hw hB hz1 hk1 hS1 => ?_)
  obtain ⟨hP1, hK1, hD1⟩ := hB
  rw [ht] at hP1
  exact kk a9 h H1 locs1 ls hP1 (hD1.weaken (fun _ q _ h => hF q.1 h)) hS1 hl
end XS
