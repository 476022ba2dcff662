/-! rows for the law: the program's world and the reference's, one behind the other (written by wip/gen/rows7.py) -/
def al_2 (a b : Nat → Nat) : Nat → Nat := fun k => if k < 151 then a k else b (k - 151)
def cl_2 (G : gp_) (a b : Nat → Nat) : Nat → (Int → Int) → va_E := fun k row => if k < 151 then ceX G a k row else ceM G b (k - 151) row
def cm_2 (μ ν : mu_T) : mu_T := fun k => if k < 151 then μ k else ν (k - 151)
theorem wl_law {G : gp_} {a b : Nat → Nat} {μ ν : mu_T} : wl_ 160 (al_2 a b) (cl_2 G a b) (cm_2 μ ν) = wl_ 151 a (ceX G a) μ ++ wl_ 9 b (ceM G b) ν := by
  apply List.ext_getElem?
  intro i
  have hlen : (wl_ 151 a (ceX G a) μ).length = 151 := by unfold wl_; rw [List.length_map, List.length_range]
  by_cases h : i < 151
  · rw [List.getElem?_append_left (by rw [hlen]; exact h), wl_get h, wl_get (show i < 160 by omega)]
    unfold al_2 cl_2 cm_2
    rw [if_pos h, if_pos h, if_pos h]
  · rw [List.getElem?_append_right (by rw [hlen]; omega), hlen]
    by_cases h2 : i < 160
    · rw [wl_get h2, wl_get (show i - 151 < 9 by omega)]
      unfold al_2 cl_2 cm_2
      rw [if_neg h, if_neg h, if_neg h]
    · rw [List.getElem?_eq_none (by unfold wl_; rw [List.length_map, List.length_range]; omega), List.getElem?_eq_none (by unfold wl_; rw [List.length_map, List.length_range]; omega)]
abbrev wy_ (G : gp_) (X : ct_) (ad adM : Nat → Nat) (p q : Nat) (μ ν : mu_T) (k n pc : Nat) (lv : List (Nat × Value)) (st : List Value) : Prop := wx_ G X 160 (al_2 (am_ ad p q) adM) (cl_2 G (am_ ad p q) adM) (cm_2 μ ν) k n pc lv st
theorem wapp_l {w0 w2 : va_W} {k : Nat} {x : Nat × va_E} (h : w0[k]? = some x) : (w0 ++ w2)[k]? = some x := by
  rw [List.getElem?_append_left (List.getElem?_eq_some_iff.mp h).1]
  exact h
theorem wapp_r {w0 w2 : va_W} {k : Nat} {x : Nat × va_E} (h : w2[k]? = some x) : (w0 ++ w2)[w0.length + k]? = some x := by
  rw [List.getElem?_append_right (by omega), Nat.add_sub_cancel_left]
  exact h
theorem wD_l {A : Nat → Prop} {w0 w2 : va_W} (h : va_D A (w0 ++ w2)) : va_D A w0 := ⟨fun i j x y hx hy e => h.1 i j x y (wapp_l hx) (wapp_l hy) e, fun k x hx => h.2 k x (wapp_l hx)⟩
theorem wD_r {A : Nat → Prop} {w0 w2 : va_W} (h : va_D A (w0 ++ w2)) : va_D A w2 := ⟨fun i j x y hx hy e => by have := h.1 _ _ x y (wapp_r hx) (wapp_r hy) e; omega, fun k x hx => h.2 _ x (wapp_r hx)⟩
theorem wP_l {D : va_G} {cl : List vw_C} {w0 w2 : va_W} {H : Heap} (h : va_P D cl (w0 ++ w2) H) : va_P D cl w0 H := fun k x hx => h k x (wapp_l hx)
theorem wP_r {D : va_G} {cl : List vw_C} {w0 w2 : va_W} {H : Heap} (h : va_P D cl (w0 ++ w2) H) : va_P D cl w2 H := fun k x hx => h _ x (wapp_r hx)
/-- behind a call over the first world -/
theorem wjl_ {D : va_G} {cl : List vw_C} {A : Nat → Prop} {w0 w1 w2 : va_W} {H H1 : Heap} (hP : va_P D cl (w0 ++ w2) H) (hD : va_D A (w0 ++ w2)) (hk : ∀ x : Nat, x < H.size → ¬ va_A w0 H.size x → H1[x]? = H[x]?) (hF : ∀ x, va_A w0 H.size x → A x) (hP1 : va_P D cl w1 H1) (hD1 : va_D (va_A w0 H.size) w1) : va_P D cl (w1 ++ w2) H1 ∧ va_D A (w1 ++ w2) := by
  have hno : ∀ (k : Nat) (x : Nat × va_E), w2[k]? = some x → ¬ va_A w0 H.size x.1 := fun k x hx hz => by
    rcases hz with ⟨j, e8, hj⟩ | hz
    · have := hD.1 _ _ _ _ (wapp_l hj) (wapp_r hx) rfl
      have hlt := (List.getElem?_eq_some_iff.mp hj).1
      omega
    · have := (wP_r hP k x hx).lt
      omega
  exact ⟨hP1.app ((wP_r hP).kept (fun k x hx => hk x.1 ((wP_r hP k x hx).lt) (hno k x hx))), va_D.app (hD1.weaken (fun _ x _ h => hF x.1 h)) (wD_r hD) (fun i j x y hx hy hxy => hno j y hy (by rw [← hxy]; exact hD1.2 i x hx))⟩
/-- behind a call over the second world -/
theorem wjr_ {D : va_G} {cl : List vw_C} {A : Nat → Prop} {w0 w1 w2 : va_W} {H H1 : Heap} (hP : va_P D cl (w0 ++ w2) H) (hD : va_D A (w0 ++ w2)) (hk : ∀ x : Nat, x < H.size → ¬ va_A w2 H.size x → H1[x]? = H[x]?) (hF : ∀ x, va_A w2 H.size x → A x) (hP1 : va_P D cl w1 H1) (hD1 : va_D (va_A w2 H.size) w1) : va_P D cl (w0 ++ w1) H1 ∧ va_D A (w0 ++ w1) := by
  have hno : ∀ (k : Nat) (x : Nat × va_E), w0[k]? = some x → ¬ va_A w2 H.size x.1 := fun k x hx hz => by
    rcases hz with ⟨j, e8, hj⟩ | hz
    · have := hD.1 _ _ _ _ (wapp_l hx) (wapp_r hj) rfl
      have hlt := (List.getElem?_eq_some_iff.mp hx).1
      omega
    · have := (wP_l hP k x hx).lt
      omega
  exact ⟨((wP_l hP).kept (fun k x hx => hk x.1 ((wP_l hP k x hx).lt) (hno k x hx))).app hP1, va_D.app (wD_l hD) (hD1.weaken (fun _ x _ h => hF x.1 h)) (fun i j x y hx hy hxy => hno i x hx (by rw [hxy]; exact hD1.2 j y hy))⟩
/-- the script: read only -/
def sx_ (X : ct_) (b L : Nat) (xs : Nat → Int32) : Prop := match X with
  | (_, _, _, _, s, _, _, _, _, _, _, A, _) => va_X b L xs s s.heap ∧ b < s.heap.size ∧ ¬ A b
def sv_ (xs : Nat → Int32) (i j : Nat) : Int := (xs (i + j)).toInt
theorem sv_rg (xs : Nat → Int32) (i j : Nat) : rg_ (sv_ xs i j) := iI_rg _
section XY
variable {G : gp_} {X : ct_} {N : Nat} {ad : Nat → Nat} {ce : Nat → (Int → Int) → va_E} {μ : mu_T} {k n pc : Nat} {lv lv1 : List (Nat × Value)} {st stk : List Value} {cc : ByteArray} {own : String} {rm : Room} {ret : Option FieldType} {nl : Nat} {b L : Nat} {xs : Nat → Int32}
theorem xx_slen (C : cx_ G X cc own rm ret nl) (Sx : sx_ X b L xs) (p1 : Nat) (hp : pc + 1 = p1) (d : decode cc pc = .ok (.arraylength, 1)) (h : wx_ G X N ad ce μ k n p1 lv (.int (iI (L : Nat)) :: st)) : wx_ G X N ad ce μ k n pc lv (.ref b :: st) := by
  obtain ⟨p, l, e, R, s, m, args, below, meth, c, Q, A, nL⟩ := X
  intro H locs ls hP hD hS hl
  subst hp
  exact va_slen C.1 C.2.1 Sx.1 Sx.2.1 Sx.2.2 hS d (h H locs ls hP hD hS hl)
theorem xx_sld (C : cx_ G X cc own rm ret nl) (Sx : sx_ X b L xs) (p1 : Nat) (hp : pc + 1 = p1) (i j : Nat) {z : Int} (hz : z = ((i + j : Nat) : Int)) (hij : i + j < L) (hL : L < 2147483648) (d : decode cc pc = .ok (.iaload, 1)) (h : wx_ G X N ad ce μ k n p1 lv (.int (iI (sv_ xs i j)) :: st)) : wx_ G X N ad ce μ k n pc lv (.int (iI z) :: .ref b :: st) := by
  obtain ⟨p, l, e, R, s, m, args, below, meth, c, Q, A, nL⟩ := X
  intro H locs ls hP hD hS hl
  subst hp
  subst hz
  refine va_sld C.1 C.2.1 Sx.1 Sx.2.1 Sx.2.2 hS (iI_in (by omega) (by omega) hL) d ?_
  have e1 : (iI ((i + j : Nat) : Int)).toNatClampNeg = i + j := by rw [iI_clamp (by omega)]; omega
  rw [e1, ← iI_of (xs (i + j))]
  exact h H locs ls hP hD hS hl
theorem xx_dstore (C : cx_ G X cc own rm ret nl) (p1 : Nat) (hp : pc + 2 = p1) {j : Nat} {x : UInt64} (hn : j + 1 < nl) (d : decode cc pc = .ok (.dstore j, 2)) (hf : (j, Value.double x) :: lv.filter (fun q => !(q.1 == j) && (!(q.1 == j + 1) && !(q.1 + 1 == j && q.2.category == 2))) = lv1) (h : wx_ G X N ad ce μ k n p1 lv1 st) : wx_ G X N ad ce μ k n pc lv (.double x :: st) := by
  obtain ⟨p, l, e, R, s, m, args, below, meth, c, Q, A, nL⟩ := X
  intro H locs ls hP hD hS hl
  subst hp
  have hnl : nL = nl := C.2.2.2.2.2.2.2.2.2.2.2.2
  exact lv_dstore C.1 C.2.1 d hl (by rw [hnl]; exact hn) hf (fun ls1 hl1 => h H locs ls1 hP hD hS hl1)
theorem xx_dload (C : cx_ G X cc own rm ret nl) (p1 : Nat) (hp : pc + 2 = p1) (q : Nat) {j : Nat} {x : UInt64} (d : decode cc pc = .ok (.dload j, 2)) (hq : lv[q]? = some (j, .double x)) (h : wx_ G X N ad ce μ k n p1 lv (.double x :: st)) : wx_ G X N ad ce μ k n pc lv st := by
  obtain ⟨p, l, e, R, s, m, args, below, meth, c, Q, A, nL⟩ := X
  intro H locs ls hP hD hS hl
  subst hp
  exact lv_dload C.1 C.2.1 d (lv_at hl q hq) (h H locs ls hP hD hS hl)
theorem xx_dcmp (C : cx_ G X cc own rm ret nl) (p1 : Nat) (hp : pc + 1 = p1) {x y : UInt64} {op : CmpOp} {v : Int} (d : decode cc pc = .ok (.dcmp op, 1)) (hv : Op.cmpValue (FP.dcmp x y) op = iI v) (h : wx_ G X N ad ce μ k n p1 lv (.int (iI v) :: st)) : wx_ G X N ad ce μ k n pc lv (.double y :: .double x :: st) := by
  obtain ⟨p, l, e, R, s, m, args, below, meth, c, Q, A, nL⟩ := X
  intro H locs ls hP hD hS hl
  subst hp
  refine lv_dcmp C.1 C.2.1 d ?_
  rw [hv]
  exact h H locs ls hP hD hS hl
theorem xx_f2d (C : cx_ G X cc own rm ret nl) (p1 : Nat) (hp : pc + 1 = p1) {x : UInt32} (d : decode cc pc = .ok (.f2d, 1)) (hne : vf_n64 (FP.f2d x)) (h : wx_ G X N ad ce μ k n p1 lv (.double (FP.f2d x) :: st)) : wx_ G X N ad ce μ k n pc lv (.float x :: st) := by
  obtain ⟨p, l, e, R, s, m, args, below, meth, c, Q, A, nL⟩ := X
  intro H locs ls hP hD hS hl
  subst hp
  exact lv_f2d C.1 C.2.1 d hne (h H locs ls hP hD hS hl)
def bv_ (a : Int) : Int := if a = 0 then 0 else 1
/-- a number asked whether it is not 0 -/
theorem xx_bool (C : cx_ G X cc own rm ret nl) (pf pg pt : Nat) {a : Int} (ha : rg_ a) (hpf : pc + 7 = pf) (hpg : pc + 4 = pg) (hpt : pc + 8 = pt) (d1 : decode cc pc = .ok (.ifCond .eq 7, 3)) (d2 : decode cc (pc + 3) = .ok (.iconst 1, 1)) (d3 : decode cc pg = .ok (.goto 4, 3)) (d4 : decode cc pf = .ok (.iconst 0, 1)) (h : wx_ G X N ad ce μ k n pt lv (.int (iI (bv_ a)) :: st)) : wx_ G X N ad ce μ k n pc lv (.int (iI a) :: st) := by
  subst hpf
  subst hpg
  subst hpt
  by_cases h0 : a = 0
  · subst h0
    refine xx_if_eq (tgt := pc + 7) (t := some ()) (f := none) (r := ()) C (pc + 3) rfl d1 (by omega) (by unfold eq_; exact if_pos rfl) (fun _ => ?_) (fun h => nn_ h)
    exact xx_iconst C (pc + 8) rfl d4 h
  · have e1 : bv_ a = 1 := if_neg h0
    rw [e1] at h
    refine xx_if_eq (tgt := pc + 7) (t := none) (f := some ()) (r := ()) C (pc + 3) rfl d1 (by omega) (by unfold eq_; rw [if_neg h0]; exact if_pos ⟨ha, by omega, by omega⟩) (fun h => nn_ h) (fun _ => ?_)
    refine xx_iconst C (pc + 4) rfl d2 ?_
    exact xx_goto C (pc + 8) d3 (by omega) h
theorem tw_all {a : Int} : ∀ (vs : List Int), tw_ a vs (vs.map (fun _ => some ())) (some ()) = some ()
  | [] => rfl
  | v :: vs => by
    unfold tw_
    simp only [List.map_cons]
    split
    · rfl
    · exact tw_all vs
theorem ts_all {a : Int} (h : rg_ a) (vs : List Int) : ts_ a vs (vs.map (fun _ => some ())) (some ()) = some () := by
  unfold ts_
  rw [if_pos h]
  exact tw_all vs
end XY
section XL
variable {G : gp_} {X : ct_} {ad adM : Nat → Nat} {p q : Nat} {μ ν : mu_T} {k n pc : Nat} {lv lv1 : List (Nat × Value)} {st stk : List Value} {cc : ByteArray} {own : String} {rm : Room} {ret : Option FieldType} {nl : Nat}

theorem yX_i (C : cx_ G X cc own rm ret nl) (pcn : Nat) (hp : pc + 3 = pcn) {y : MethodName} {bytes : ByteArray} {maxL nA index : Nat} {ret2 : Option FieldType} {rm2 : Room} {As : List Value} {a : Int} {μ1 : mu_T} (hcl : y.cls = "UrnHeap") (hca : ca_ y bytes maxL ret2 nA) (hcv : cv_ y) (m1 : Cond.methodLink own index y ∈ gT_) (hn : As.length = nA) (hR : rm2.frames + 1 ≤ rm.frames ∧ 8 + (maxL + 11) + rm2.locals ≤ rm.locals) (hf : k + rm2.cells ≤ rm.cells ∧ n + rm2.slots ≤ rm.slots) (hW : (st.map fun v => v.category).sum ≤ 8) (d : decode cc pc = .ok (.invokevirtual index, 3)) (hM : mi_ y bytes maxL ret2 rm2 G 151 (am_ ad p q) (ceX G (am_ ad p q)) (.ref (ad 132) :: As) μ a μ1) (kk : wy_ G X ad adM p q μ1 ν (k + rm2.cells) (n + rm2.slots) pcn lv (.int (iI a) :: st)) (hst : stk = As.reverse ++ .ref (ad 132) :: st) : wy_ G X ad adM p q μ ν k n pc lv stk := by
  obtain ⟨p9, l, e, R, s, m, args, below, meth, c, Q, A, nL⟩ := X
  intro H locs ls hP hD hS hl
  rw [wl_law] at hP hD
  subst hp
  have hts := C.2.2.1
  have hK := C.2.2.2.2.1
  have hA := C.2.2.2.2.2.1
  have hAb := C.2.2.2.2.2.2.2.2.1
  have hR' : R = rm := C.2.2.2.2.2.2.2.2.2.1
  have hg := C.2.2.2.2.2.2.2.2.2.2.2.1
  subst hR'
  have hsz : G.2.2 ≤ H.size := by
    have h1 := hAb s.heap.size (hA _ (Nat.le_refl _))
    exact Nat.le_trans h1 hS.1
  have hPc : va_P G.1 vwCl (wl_ 151 (am_ ad p q) (ceX G (am_ ad p q)) μ) H := wP_l hP
  have hDc : va_D A (wl_ 151 (am_ ad p q) (ceX G (am_ ad p q)) μ) := wD_l hD
  have hDb : va_D (fun x => G.2.2 ≤ x) (wl_ 151 (am_ ad p q) (ceX G (am_ ad p q)) μ) := hDc.weaken (fun _ x _ h => hAb x.1 h)
  have hgH : gk_ G s H := gk_kept hg (fun a h1 h2 => hS.2.1 a h1 (fun x => h2 (hAb a x)))
  have hF : ∀ x, va_A (wl_ 151 (am_ ad p q) (ceX G (am_ ad p q)) μ) H.size x → A x := fun x h => by
    rcases h with ⟨j, e9, h⟩ | h
    · exact hDc.2 j _ h
    · exact hA x (Nat.le_trans hS.1 h)
  subst hst
  have hpreV : ∀ U : State, U.heap = H → s.WarmedH U.vm → va_Pc (.ref (ad 132) :: As) (pr_ G 151 (am_ ad p q) (ceX G (am_ ad p q)) μ H.size) (Value.ref (ad 132) :: As).toArray U := fun U hU hW9 => ⟨rfl, by rw [hU], by rw [hU]; exact hPc, va_K.moved hW9.alike hK, hDb, hsz, by rw [hU]; exact gk_warm hW9 hgH⟩
  refine va_calli (va_runV (rest := st) ⟨C.1, C.2.1, C.2.2.2.2.2.2.1, C.2.2.2.1, hts⟩ (hM l H.size) ⟨callB_of nA hts (gT_in hca.2.1) rfl rfl rfl (hts _ hca.1) (hts _ m1) hca.2.2 hR, hts _ hcv.1, hts _ hcv.2⟩ ⟨(fun a U g mk x => by obtain ⟨q0, q1, qP, qK, qD, q2, q3⟩ := x; exact ⟨q0, q1, qP, va_K.moved (u := U) (U := U.calling g mk a) (Vm.Alike.refl U.vm) qK, qD, q2, gk_same (u := U) (U := U.calling g mk a) rfl q3⟩), (by have h9 := va_recv (ci := 10) (q0 := 132) (a := ad 132) hK hPc rfl ((wl_get (show 132 < 151 by decide)).trans (by rw [ceX_132]; rfl)); rw [hcl]; exact h9), hpreV⟩ rfl hn hl.1 rfl (lv_room hW) d hf) hS (fun x _ h => hF x h) hF (fun r9 u t H1 locs1 ht hvm hw hB hz1 hk1 hS1 => ?_)
  obtain ⟨hP1, hK1, hD1⟩ := hB
  rw [ht] at hP1
  rw [hw]
  obtain ⟨hP2, hD2⟩ := wjl_ hP hD hk1 hF hP1 hD1
  exact kk H1 locs1 ls (by rw [wl_law]; exact hP2) (by rw [wl_law]; exact hD2) hS1 hl
theorem yX_d (C : cx_ G X cc own rm ret nl) (pcn : Nat) (hp : pc + 3 = pcn) {y : MethodName} {bytes : ByteArray} {maxL nA index : Nat} {ret2 : Option FieldType} {rm2 : Room} {As : List Value} {a : UInt64} {μ1 : mu_T} (hcl : y.cls = "UrnHeap") (hca : ca_ y bytes maxL ret2 nA) (hcv : cv_ y) (m1 : Cond.methodLink own index y ∈ gT_) (hn : As.length = nA) (hR : rm2.frames + 1 ≤ rm.frames ∧ 8 + (maxL + 11) + rm2.locals ≤ rm.locals) (hf : k + rm2.cells ≤ rm.cells ∧ n + rm2.slots ≤ rm.slots) (hW : (st.map fun v => v.category).sum ≤ 8) (d : decode cc pc = .ok (.invokevirtual index, 3)) (hM : md_ y bytes maxL ret2 rm2 G 151 (am_ ad p q) (ceX G (am_ ad p q)) (.ref (ad 132) :: As) μ a μ1) (kk : wy_ G X ad adM p q μ1 ν (k + rm2.cells) (n + rm2.slots) pcn lv (.double a :: st)) (hst : stk = As.reverse ++ .ref (ad 132) :: st) : wy_ G X ad adM p q μ ν k n pc lv stk := by
  obtain ⟨p9, l, e, R, s, m, args, below, meth, c, Q, A, nL⟩ := X
  intro H locs ls hP hD hS hl
  rw [wl_law] at hP hD
  subst hp
  have hts := C.2.2.1
  have hK := C.2.2.2.2.1
  have hA := C.2.2.2.2.2.1
  have hAb := C.2.2.2.2.2.2.2.2.1
  have hR' : R = rm := C.2.2.2.2.2.2.2.2.2.1
  have hg := C.2.2.2.2.2.2.2.2.2.2.2.1
  subst hR'
  have hsz : G.2.2 ≤ H.size := by
    have h1 := hAb s.heap.size (hA _ (Nat.le_refl _))
    exact Nat.le_trans h1 hS.1
  have hPc : va_P G.1 vwCl (wl_ 151 (am_ ad p q) (ceX G (am_ ad p q)) μ) H := wP_l hP
  have hDc : va_D A (wl_ 151 (am_ ad p q) (ceX G (am_ ad p q)) μ) := wD_l hD
  have hDb : va_D (fun x => G.2.2 ≤ x) (wl_ 151 (am_ ad p q) (ceX G (am_ ad p q)) μ) := hDc.weaken (fun _ x _ h => hAb x.1 h)
  have hgH : gk_ G s H := gk_kept hg (fun a h1 h2 => hS.2.1 a h1 (fun x => h2 (hAb a x)))
  have hF : ∀ x, va_A (wl_ 151 (am_ ad p q) (ceX G (am_ ad p q)) μ) H.size x → A x := fun x h => by
    rcases h with ⟨j, e9, h⟩ | h
    · exact hDc.2 j _ h
    · exact hA x (Nat.le_trans hS.1 h)
  subst hst
  have hpreV : ∀ U : State, U.heap = H → s.WarmedH U.vm → va_Pc (.ref (ad 132) :: As) (pr_ G 151 (am_ ad p q) (ceX G (am_ ad p q)) μ H.size) (Value.ref (ad 132) :: As).toArray U := fun U hU hW9 => ⟨rfl, by rw [hU], by rw [hU]; exact hPc, va_K.moved hW9.alike hK, hDb, hsz, by rw [hU]; exact gk_warm hW9 hgH⟩
  refine va_calld (va_runV (rest := st) ⟨C.1, C.2.1, C.2.2.2.2.2.2.1, C.2.2.2.1, hts⟩ (hM l H.size) ⟨callB_of nA hts (gT_in hca.2.1) rfl rfl rfl (hts _ hca.1) (hts _ m1) hca.2.2 hR, hts _ hcv.1, hts _ hcv.2⟩ ⟨(fun a U g mk x => by obtain ⟨q0, q1, qP, qK, qD, q2, q3⟩ := x; exact ⟨q0, q1, qP, va_K.moved (u := U) (U := U.calling g mk a) (Vm.Alike.refl U.vm) qK, qD, q2, gk_same (u := U) (U := U.calling g mk a) rfl q3⟩), (by have h9 := va_recv (ci := 10) (q0 := 132) (a := ad 132) hK hPc rfl ((wl_get (show 132 < 151 by decide)).trans (by rw [ceX_132]; rfl)); rw [hcl]; exact h9), hpreV⟩ rfl hn hl.1 rfl (lv_room hW) d hf) hS (fun x _ h => hF x h) hF (fun r9 u t H1 locs1 ht hvm hw hB hz1 hk1 hS1 => ?_)
  obtain ⟨hP1, hK1, hD1⟩ := hB
  rw [ht] at hP1
  rw [hw]
  obtain ⟨hP2, hD2⟩ := wjl_ hP hD hk1 hF hP1 hD1
  exact kk H1 locs1 ls (by rw [wl_law]; exact hP2) (by rw [wl_law]; exact hD2) hS1 hl
theorem yX_f (C : cx_ G X cc own rm ret nl) (pcn : Nat) (hp : pc + 3 = pcn) {y : MethodName} {bytes : ByteArray} {maxL nA index : Nat} {ret2 : Option FieldType} {rm2 : Room} {As : List Value} {a : UInt32} {μ1 : mu_T} (hcl : y.cls = "UrnHeap") (hca : ca_ y bytes maxL ret2 nA) (hcv : cv_ y) (m1 : Cond.methodLink own index y ∈ gT_) (hn : As.length = nA) (hR : rm2.frames + 1 ≤ rm.frames ∧ 8 + (maxL + 11) + rm2.locals ≤ rm.locals) (hf : k + rm2.cells ≤ rm.cells ∧ n + rm2.slots ≤ rm.slots) (hW : (st.map fun v => v.category).sum ≤ 8) (d : decode cc pc = .ok (.invokevirtual index, 3)) (hM : mf_ y bytes maxL ret2 rm2 G 151 (am_ ad p q) (ceX G (am_ ad p q)) (.ref (ad 132) :: As) μ a μ1) (kk : wy_ G X ad adM p q μ1 ν (k + rm2.cells) (n + rm2.slots) pcn lv (.float a :: st)) (hst : stk = As.reverse ++ .ref (ad 132) :: st) : wy_ G X ad adM p q μ ν k n pc lv stk := by
  obtain ⟨p9, l, e, R, s, m, args, below, meth, c, Q, A, nL⟩ := X
  intro H locs ls hP hD hS hl
  rw [wl_law] at hP hD
  subst hp
  have hts := C.2.2.1
  have hK := C.2.2.2.2.1
  have hA := C.2.2.2.2.2.1
  have hAb := C.2.2.2.2.2.2.2.2.1
  have hR' : R = rm := C.2.2.2.2.2.2.2.2.2.1
  have hg := C.2.2.2.2.2.2.2.2.2.2.2.1
  subst hR'
  have hsz : G.2.2 ≤ H.size := by
    have h1 := hAb s.heap.size (hA _ (Nat.le_refl _))
    exact Nat.le_trans h1 hS.1
  have hPc : va_P G.1 vwCl (wl_ 151 (am_ ad p q) (ceX G (am_ ad p q)) μ) H := wP_l hP
  have hDc : va_D A (wl_ 151 (am_ ad p q) (ceX G (am_ ad p q)) μ) := wD_l hD
  have hDb : va_D (fun x => G.2.2 ≤ x) (wl_ 151 (am_ ad p q) (ceX G (am_ ad p q)) μ) := hDc.weaken (fun _ x _ h => hAb x.1 h)
  have hgH : gk_ G s H := gk_kept hg (fun a h1 h2 => hS.2.1 a h1 (fun x => h2 (hAb a x)))
  have hF : ∀ x, va_A (wl_ 151 (am_ ad p q) (ceX G (am_ ad p q)) μ) H.size x → A x := fun x h => by
    rcases h with ⟨j, e9, h⟩ | h
    · exact hDc.2 j _ h
    · exact hA x (Nat.le_trans hS.1 h)
  subst hst
  have hpreV : ∀ U : State, U.heap = H → s.WarmedH U.vm → va_Pc (.ref (ad 132) :: As) (pr_ G 151 (am_ ad p q) (ceX G (am_ ad p q)) μ H.size) (Value.ref (ad 132) :: As).toArray U := fun U hU hW9 => ⟨rfl, by rw [hU], by rw [hU]; exact hPc, va_K.moved hW9.alike hK, hDb, hsz, by rw [hU]; exact gk_warm hW9 hgH⟩
  refine va_callf (va_runV (rest := st) ⟨C.1, C.2.1, C.2.2.2.2.2.2.1, C.2.2.2.1, hts⟩ (hM l H.size) ⟨callB_of nA hts (gT_in hca.2.1) rfl rfl rfl (hts _ hca.1) (hts _ m1) hca.2.2 hR, hts _ hcv.1, hts _ hcv.2⟩ ⟨(fun a U g mk x => by obtain ⟨q0, q1, qP, qK, qD, q2, q3⟩ := x; exact ⟨q0, q1, qP, va_K.moved (u := U) (U := U.calling g mk a) (Vm.Alike.refl U.vm) qK, qD, q2, gk_same (u := U) (U := U.calling g mk a) rfl q3⟩), (by have h9 := va_recv (ci := 10) (q0 := 132) (a := ad 132) hK hPc rfl ((wl_get (show 132 < 151 by decide)).trans (by rw [ceX_132]; rfl)); rw [hcl]; exact h9), hpreV⟩ rfl hn hl.1 rfl (lv_room hW) d hf) hS (fun x _ h => hF x h) hF (fun r9 u t H1 locs1 ht hvm hw hB hz1 hk1 hS1 => ?_)
  obtain ⟨hP1, hK1, hD1⟩ := hB
  rw [ht] at hP1
  rw [hw]
  obtain ⟨hP2, hD2⟩ := wjl_ hP hD hk1 hF hP1 hD1
  exact kk H1 locs1 ls (by rw [wl_law]; exact hP2) (by rw [wl_law]; exact hD2) hS1 hl
theorem yX_g (C : cx_ G X cc own rm ret nl) (pcn : Nat) (hp : pc + 3 = pcn) {y : MethodName} {bytes : ByteArray} {maxL nA index : Nat} {ret2 : Option FieldType} {rm2 : Room} {As : List Value} {a : Int} {μ1 : mu_T} (hcl : y.cls = "UrnHeap") (hca : ca_ y bytes maxL ret2 nA) (hcv : cv_ y) (m1 : Cond.methodLink own index y ∈ gT_) (hn : As.length = nA) (hR : rm2.frames + 1 ≤ rm.frames ∧ 8 + (maxL + 11) + rm2.locals ≤ rm.locals) (hf : k + rm2.cells ≤ rm.cells ∧ n + rm2.slots ≤ rm.slots) (hW : (st.map fun v => v.category).sum ≤ 8) (d : decode cc pc = .ok (.invokevirtual index, 3)) (hM : mgi_ y bytes maxL ret2 rm2 G ad p q (.ref (ad 132) :: As) μ a μ1) (kk : ∀ p1 q1, wy_ G X ad adM p1 q1 μ1 ν (k + rm2.cells) (n + rm2.slots) pcn lv (.int (iI a) :: st)) (hst : stk = As.reverse ++ .ref (ad 132) :: st) : wy_ G X ad adM p q μ ν k n pc lv stk := by
  obtain ⟨p9, l, e, R, s, m, args, below, meth, c, Q, A, nL⟩ := X
  intro H locs ls hP hD hS hl
  rw [wl_law] at hP hD
  subst hp
  have hts := C.2.2.1
  have hK := C.2.2.2.2.1
  have hA := C.2.2.2.2.2.1
  have hAb := C.2.2.2.2.2.2.2.2.1
  have hR' : R = rm := C.2.2.2.2.2.2.2.2.2.1
  have hg := C.2.2.2.2.2.2.2.2.2.2.2.1
  subst hR'
  have hsz : G.2.2 ≤ H.size := by
    have h1 := hAb s.heap.size (hA _ (Nat.le_refl _))
    exact Nat.le_trans h1 hS.1
  have hPc : va_P G.1 vwCl (wl_ 151 (am_ ad p q) (ceX G (am_ ad p q)) μ) H := wP_l hP
  have hDc : va_D A (wl_ 151 (am_ ad p q) (ceX G (am_ ad p q)) μ) := wD_l hD
  have hDb : va_D (fun x => G.2.2 ≤ x) (wl_ 151 (am_ ad p q) (ceX G (am_ ad p q)) μ) := hDc.weaken (fun _ x _ h => hAb x.1 h)
  have hgH : gk_ G s H := gk_kept hg (fun a h1 h2 => hS.2.1 a h1 (fun x => h2 (hAb a x)))
  have hF : ∀ x, va_A (wl_ 151 (am_ ad p q) (ceX G (am_ ad p q)) μ) H.size x → A x := fun x h => by
    rcases h with ⟨j, e9, h⟩ | h
    · exact hDc.2 j _ h
    · exact hA x (Nat.le_trans hS.1 h)
  subst hst
  have hpreV : ∀ U : State, U.heap = H → s.WarmedH U.vm → va_Pc (.ref (ad 132) :: As) (pr_ G 151 (am_ ad p q) (ceX G (am_ ad p q)) μ H.size) (Value.ref (ad 132) :: As).toArray U := fun U hU hW9 => ⟨rfl, by rw [hU], by rw [hU]; exact hPc, va_K.moved hW9.alike hK, hDb, hsz, by rw [hU]; exact gk_warm hW9 hgH⟩
  refine va_calli (va_runV (rest := st) ⟨C.1, C.2.1, C.2.2.2.2.2.2.1, C.2.2.2.1, hts⟩ (hM l H.size) ⟨callB_of nA hts (gT_in hca.2.1) rfl rfl rfl (hts _ hca.1) (hts _ m1) hca.2.2 hR, hts _ hcv.1, hts _ hcv.2⟩ ⟨(fun a U g mk x => by obtain ⟨q0, q1, qP, qK, qD, q2, q3⟩ := x; exact ⟨q0, q1, qP, va_K.moved (u := U) (U := U.calling g mk a) (Vm.Alike.refl U.vm) qK, qD, q2, gk_same (u := U) (U := U.calling g mk a) rfl q3⟩), (by have h9 := va_recv (ci := 10) (q0 := 132) (a := ad 132) hK hPc rfl ((wl_get (show 132 < 151 by decide)).trans (by rw [ceX_132]; rfl)); rw [hcl]; exact h9), hpreV⟩ rfl hn hl.1 rfl (lv_room hW) d hf) hS (fun x _ h => hF x h) hF (fun r9 u t H1 locs1 ht hvm hw hB hz1 hk1 hS1 => ?_)
  obtain ⟨hP1, hK1, hD1⟩ := hB
  rw [ht] at hP1
  rw [hw]
  obtain ⟨hP2, hD2⟩ := wjl_ hP hD hk1 hF hP1 hD1
  exact kk u.1 u.2 H1 locs1 ls (by rw [wl_law]; exact hP2) (by rw [wl_law]; exact hD2) hS1 hl
theorem yM_i (C : cx_ G X cc own rm ret nl) (pcn : Nat) (hp : pc + 3 = pcn) {y : MethodName} {bytes : ByteArray} {maxL nA index : Nat} {ret2 : Option FieldType} {rm2 : Room} {As : List Value} {a : Int} {ν1 : mu_T} (hcl : y.cls = "UrnHeapModel") (hca : ca_ y bytes maxL ret2 nA) (hcv : cv_ y) (m1 : Cond.methodLink own index y ∈ gT_) (hn : As.length = nA) (hR : rm2.frames + 1 ≤ rm.frames ∧ 8 + (maxL + 11) + rm2.locals ≤ rm.locals) (hf : k + rm2.cells ≤ rm.cells ∧ n + rm2.slots ≤ rm.slots) (hW : (st.map fun v => v.category).sum ≤ 8) (d : decode cc pc = .ok (.invokevirtual index, 3)) (hM : mi_ y bytes maxL ret2 rm2 G 9 adM (ceM G adM) (.ref (adM 0) :: As) ν a ν1) (kk : wy_ G X ad adM p q μ ν1 (k + rm2.cells) (n + rm2.slots) pcn lv (.int (iI a) :: st)) (hst : stk = As.reverse ++ .ref (adM 0) :: st) : wy_ G X ad adM p q μ ν k n pc lv stk := by
  obtain ⟨p9, l, e, R, s, m, args, below, meth, c, Q, A, nL⟩ := X
  intro H locs ls hP hD hS hl
  rw [wl_law] at hP hD
  subst hp
  have hts := C.2.2.1
  have hK := C.2.2.2.2.1
  have hA := C.2.2.2.2.2.1
  have hAb := C.2.2.2.2.2.2.2.2.1
  have hR' : R = rm := C.2.2.2.2.2.2.2.2.2.1
  have hg := C.2.2.2.2.2.2.2.2.2.2.2.1
  subst hR'
  have hsz : G.2.2 ≤ H.size := by
    have h1 := hAb s.heap.size (hA _ (Nat.le_refl _))
    exact Nat.le_trans h1 hS.1
  have hPc : va_P G.1 vwCl (wl_ 9 adM (ceM G adM) ν) H := wP_r hP
  have hDc : va_D A (wl_ 9 adM (ceM G adM) ν) := wD_r hD
  have hDb : va_D (fun x => G.2.2 ≤ x) (wl_ 9 adM (ceM G adM) ν) := hDc.weaken (fun _ x _ h => hAb x.1 h)
  have hgH : gk_ G s H := gk_kept hg (fun a h1 h2 => hS.2.1 a h1 (fun x => h2 (hAb a x)))
  have hF : ∀ x, va_A (wl_ 9 adM (ceM G adM) ν) H.size x → A x := fun x h => by
    rcases h with ⟨j, e9, h⟩ | h
    · exact hDc.2 j _ h
    · exact hA x (Nat.le_trans hS.1 h)
  subst hst
  have hpreV : ∀ U : State, U.heap = H → s.WarmedH U.vm → va_Pc (.ref (adM 0) :: As) (pr_ G 9 adM (ceM G adM) ν H.size) (Value.ref (adM 0) :: As).toArray U := fun U hU hW9 => ⟨rfl, by rw [hU], by rw [hU]; exact hPc, va_K.moved hW9.alike hK, hDb, hsz, by rw [hU]; exact gk_warm hW9 hgH⟩
  refine va_calli (va_runV (rest := st) ⟨C.1, C.2.1, C.2.2.2.2.2.2.1, C.2.2.2.1, hts⟩ (hM l H.size) ⟨callB_of nA hts (gT_in hca.2.1) rfl rfl rfl (hts _ hca.1) (hts _ m1) hca.2.2 hR, hts _ hcv.1, hts _ hcv.2⟩ ⟨(fun a U g mk x => by obtain ⟨q0, q1, qP, qK, qD, q2, q3⟩ := x; exact ⟨q0, q1, qP, va_K.moved (u := U) (U := U.calling g mk a) (Vm.Alike.refl U.vm) qK, qD, q2, gk_same (u := U) (U := U.calling g mk a) rfl q3⟩), (by have h9 := va_recv (ci := 11) (q0 := 0) (a := adM 0) hK hPc rfl ((wl_get (show 0 < 9 by decide)).trans rfl); rw [hcl]; exact h9), hpreV⟩ rfl hn hl.1 rfl (lv_room hW) d hf) hS (fun x _ h => hF x h) hF (fun r9 u t H1 locs1 ht hvm hw hB hz1 hk1 hS1 => ?_)
  obtain ⟨hP1, hK1, hD1⟩ := hB
  rw [ht] at hP1
  rw [hw]
  obtain ⟨hP2, hD2⟩ := wjr_ hP hD hk1 hF hP1 hD1
  exact kk H1 locs1 ls (by rw [wl_law]; exact hP2) (by rw [wl_law]; exact hD2) hS1 hl
theorem yM_d (C : cx_ G X cc own rm ret nl) (pcn : Nat) (hp : pc + 3 = pcn) {y : MethodName} {bytes : ByteArray} {maxL nA index : Nat} {ret2 : Option FieldType} {rm2 : Room} {As : List Value} {a : UInt64} {ν1 : mu_T} (hcl : y.cls = "UrnHeapModel") (hca : ca_ y bytes maxL ret2 nA) (hcv : cv_ y) (m1 : Cond.methodLink own index y ∈ gT_) (hn : As.length = nA) (hR : rm2.frames + 1 ≤ rm.frames ∧ 8 + (maxL + 11) + rm2.locals ≤ rm.locals) (hf : k + rm2.cells ≤ rm.cells ∧ n + rm2.slots ≤ rm.slots) (hW : (st.map fun v => v.category).sum ≤ 8) (d : decode cc pc = .ok (.invokevirtual index, 3)) (hM : md_ y bytes maxL ret2 rm2 G 9 adM (ceM G adM) (.ref (adM 0) :: As) ν a ν1) (kk : wy_ G X ad adM p q μ ν1 (k + rm2.cells) (n + rm2.slots) pcn lv (.double a :: st)) (hst : stk = As.reverse ++ .ref (adM 0) :: st) : wy_ G X ad adM p q μ ν k n pc lv stk := by
  obtain ⟨p9, l, e, R, s, m, args, below, meth, c, Q, A, nL⟩ := X
  intro H locs ls hP hD hS hl
  rw [wl_law] at hP hD
  subst hp
  have hts := C.2.2.1
  have hK := C.2.2.2.2.1
  have hA := C.2.2.2.2.2.1
  have hAb := C.2.2.2.2.2.2.2.2.1
  have hR' : R = rm := C.2.2.2.2.2.2.2.2.2.1
  have hg := C.2.2.2.2.2.2.2.2.2.2.2.1
  subst hR'
  have hsz : G.2.2 ≤ H.size := by
    have h1 := hAb s.heap.size (hA _ (Nat.le_refl _))
    exact Nat.le_trans h1 hS.1
  have hPc : va_P G.1 vwCl (wl_ 9 adM (ceM G adM) ν) H := wP_r hP
  have hDc : va_D A (wl_ 9 adM (ceM G adM) ν) := wD_r hD
  have hDb : va_D (fun x => G.2.2 ≤ x) (wl_ 9 adM (ceM G adM) ν) := hDc.weaken (fun _ x _ h => hAb x.1 h)
  have hgH : gk_ G s H := gk_kept hg (fun a h1 h2 => hS.2.1 a h1 (fun x => h2 (hAb a x)))
  have hF : ∀ x, va_A (wl_ 9 adM (ceM G adM) ν) H.size x → A x := fun x h => by
    rcases h with ⟨j, e9, h⟩ | h
    · exact hDc.2 j _ h
    · exact hA x (Nat.le_trans hS.1 h)
  subst hst
  have hpreV : ∀ U : State, U.heap = H → s.WarmedH U.vm → va_Pc (.ref (adM 0) :: As) (pr_ G 9 adM (ceM G adM) ν H.size) (Value.ref (adM 0) :: As).toArray U := fun U hU hW9 => ⟨rfl, by rw [hU], by rw [hU]; exact hPc, va_K.moved hW9.alike hK, hDb, hsz, by rw [hU]; exact gk_warm hW9 hgH⟩
  refine va_calld (va_runV (rest := st) ⟨C.1, C.2.1, C.2.2.2.2.2.2.1, C.2.2.2.1, hts⟩ (hM l H.size) ⟨callB_of nA hts (gT_in hca.2.1) rfl rfl rfl (hts _ hca.1) (hts _ m1) hca.2.2 hR, hts _ hcv.1, hts _ hcv.2⟩ ⟨(fun a U g mk x => by obtain ⟨q0, q1, qP, qK, qD, q2, q3⟩ := x; exact ⟨q0, q1, qP, va_K.moved (u := U) (U := U.calling g mk a) (Vm.Alike.refl U.vm) qK, qD, q2, gk_same (u := U) (U := U.calling g mk a) rfl q3⟩), (by have h9 := va_recv (ci := 11) (q0 := 0) (a := adM 0) hK hPc rfl ((wl_get (show 0 < 9 by decide)).trans rfl); rw [hcl]; exact h9), hpreV⟩ rfl hn hl.1 rfl (lv_room hW) d hf) hS (fun x _ h => hF x h) hF (fun r9 u t H1 locs1 ht hvm hw hB hz1 hk1 hS1 => ?_)
  obtain ⟨hP1, hK1, hD1⟩ := hB
  rw [ht] at hP1
  rw [hw]
  obtain ⟨hP2, hD2⟩ := wjr_ hP hD hk1 hF hP1 hD1
  exact kk H1 locs1 ls (by rw [wl_law]; exact hP2) (by rw [wl_law]; exact hD2) hS1 hl
theorem yM_f (C : cx_ G X cc own rm ret nl) (pcn : Nat) (hp : pc + 3 = pcn) {y : MethodName} {bytes : ByteArray} {maxL nA index : Nat} {ret2 : Option FieldType} {rm2 : Room} {As : List Value} {a : UInt32} {ν1 : mu_T} (hcl : y.cls = "UrnHeapModel") (hca : ca_ y bytes maxL ret2 nA) (hcv : cv_ y) (m1 : Cond.methodLink own index y ∈ gT_) (hn : As.length = nA) (hR : rm2.frames + 1 ≤ rm.frames ∧ 8 + (maxL + 11) + rm2.locals ≤ rm.locals) (hf : k + rm2.cells ≤ rm.cells ∧ n + rm2.slots ≤ rm.slots) (hW : (st.map fun v => v.category).sum ≤ 8) (d : decode cc pc = .ok (.invokevirtual index, 3)) (hM : mf_ y bytes maxL ret2 rm2 G 9 adM (ceM G adM) (.ref (adM 0) :: As) ν a ν1) (kk : wy_ G X ad adM p q μ ν1 (k + rm2.cells) (n + rm2.slots) pcn lv (.float a :: st)) (hst : stk = As.reverse ++ .ref (adM 0) :: st) : wy_ G X ad adM p q μ ν k n pc lv stk := by
  obtain ⟨p9, l, e, R, s, m, args, below, meth, c, Q, A, nL⟩ := X
  intro H locs ls hP hD hS hl
  rw [wl_law] at hP hD
  subst hp
  have hts := C.2.2.1
  have hK := C.2.2.2.2.1
  have hA := C.2.2.2.2.2.1
  have hAb := C.2.2.2.2.2.2.2.2.1
  have hR' : R = rm := C.2.2.2.2.2.2.2.2.2.1
  have hg := C.2.2.2.2.2.2.2.2.2.2.2.1
  subst hR'
  have hsz : G.2.2 ≤ H.size := by
    have h1 := hAb s.heap.size (hA _ (Nat.le_refl _))
    exact Nat.le_trans h1 hS.1
  have hPc : va_P G.1 vwCl (wl_ 9 adM (ceM G adM) ν) H := wP_r hP
  have hDc : va_D A (wl_ 9 adM (ceM G adM) ν) := wD_r hD
  have hDb : va_D (fun x => G.2.2 ≤ x) (wl_ 9 adM (ceM G adM) ν) := hDc.weaken (fun _ x _ h => hAb x.1 h)
  have hgH : gk_ G s H := gk_kept hg (fun a h1 h2 => hS.2.1 a h1 (fun x => h2 (hAb a x)))
  have hF : ∀ x, va_A (wl_ 9 adM (ceM G adM) ν) H.size x → A x := fun x h => by
    rcases h with ⟨j, e9, h⟩ | h
    · exact hDc.2 j _ h
    · exact hA x (Nat.le_trans hS.1 h)
  subst hst
  have hpreV : ∀ U : State, U.heap = H → s.WarmedH U.vm → va_Pc (.ref (adM 0) :: As) (pr_ G 9 adM (ceM G adM) ν H.size) (Value.ref (adM 0) :: As).toArray U := fun U hU hW9 => ⟨rfl, by rw [hU], by rw [hU]; exact hPc, va_K.moved hW9.alike hK, hDb, hsz, by rw [hU]; exact gk_warm hW9 hgH⟩
  refine va_callf (va_runV (rest := st) ⟨C.1, C.2.1, C.2.2.2.2.2.2.1, C.2.2.2.1, hts⟩ (hM l H.size) ⟨callB_of nA hts (gT_in hca.2.1) rfl rfl rfl (hts _ hca.1) (hts _ m1) hca.2.2 hR, hts _ hcv.1, hts _ hcv.2⟩ ⟨(fun a U g mk x => by obtain ⟨q0, q1, qP, qK, qD, q2, q3⟩ := x; exact ⟨q0, q1, qP, va_K.moved (u := U) (U := U.calling g mk a) (Vm.Alike.refl U.vm) qK, qD, q2, gk_same (u := U) (U := U.calling g mk a) rfl q3⟩), (by have h9 := va_recv (ci := 11) (q0 := 0) (a := adM 0) hK hPc rfl ((wl_get (show 0 < 9 by decide)).trans rfl); rw [hcl]; exact h9), hpreV⟩ rfl hn hl.1 rfl (lv_room hW) d hf) hS (fun x _ h => hF x h) hF (fun r9 u t H1 locs1 ht hvm hw hB hz1 hk1 hS1 => ?_)
  obtain ⟨hP1, hK1, hD1⟩ := hB
  rw [ht] at hP1
  rw [hw]
  obtain ⟨hP2, hD2⟩ := wjr_ hP hD hk1 hF hP1 hD1
  exact kk H1 locs1 ls (by rw [wl_law]; exact hP2) (by rw [wl_law]; exact hD2) hS1 hl
end XL
