/-! worlds as lists: calls over a part of the world (written by wip/gen40/rowsA.py) -/
def pw_ (G : gp_) (w : va_W) (sz : Nat) (U : State) : Prop := U.heap.size = sz ∧ va_P G.1 vwCl w U.heap ∧ va_K G.1 vwCl (tys_ G.1) U ∧ va_D (fun q => G.2.2 ≤ q) w ∧ G.2.2 ≤ sz ∧ gk_ G U U.heap
def pb_9 (G : gp_) (A : Nat → Prop) (w : va_W) (t : State) : Prop := va_P G.1 vwCl w t.heap ∧ va_K G.1 vwCl (tys_ G.1) t ∧ va_D A w
abbrev qwr_ {S : Type} (G : gp_) (A : Nat → Prop) (o : S → Nat) (w1 : S → va_W) : Array Value → State → Outcome → State → Prop := va_Qr (fun (_ : S) => True) (fun u b t => b = o u ∧ pb_9 G A (w1 u) t) A
abbrev qwi_ {S : Type} (G : gp_) (A : Nat → Prop) (a : Int) (w1 : S → va_W) : Array Value → State → Outcome → State → Prop := va_Qi (fun (r : Int32) (_ : S) => r = iI a) (fun u t => pb_9 G A (w1 u) t) A
abbrev qwl_ {S : Type} (G : gp_) (A : Nat → Prop) (a : Int) (w1 : S → va_W) : Array Value → State → Outcome → State → Prop := va_Ql (fun (r : Int64) (_ : S) => r = iL a) (fun u t => pb_9 G A (w1 u) t) A
abbrev qwv_ {S : Type} (G : gp_) (A : Nat → Prop) (w1 : S → va_W) : Array Value → State → Outcome → State → Prop := va_Qv (fun (_ : S) => True) (fun u t => pb_9 G A (w1 u) t) A
/-- a contract over a list of cells -/
def mw_ (y : MethodName) (bytes : ByteArray) (maxL : Nat) (ret : Option FieldType) (rm : Room) (G : gp_) (av : List Value) (w0 : va_W) (Q : (Nat → Prop) → Array Value → State → Outcome → State → Prop) : Prop := ∀ (l : Launch) (sz : Nat), Met l y (Cond.code y bytes maxL ret :: gT_) rm (va_Pc av (pw_ G w0 sz)) (Q (va_A w0 sz)) rm.cells rm.slots (va_A w0 sz)
theorem mw_i {y : MethodName} {bytes : ByteArray} {maxL : Nat} {ret : Option FieldType} {rm : Room} {G : gp_} {N : Nat} {ad : Nat → Nat} {ce : Nat → (Int → Int) → va_E} {av : List Value} {μ μ1 : mu_T} {a : Int} (h : mi_ y bytes maxL ret rm G N ad ce av μ a μ1) : mw_ y bytes maxL ret rm G av (wl_ N ad ce μ) (fun A => qwi_ G A a (fun (_ : Unit) => wl_ N ad ce μ1)) := fun l sz => h l sz
theorem mw_l {y : MethodName} {bytes : ByteArray} {maxL : Nat} {ret : Option FieldType} {rm : Room} {G : gp_} {N : Nat} {ad : Nat → Nat} {ce : Nat → (Int → Int) → va_E} {av : List Value} {μ μ1 : mu_T} {a : Int} (h : ml_ y bytes maxL ret rm G N ad ce av μ a μ1) : mw_ y bytes maxL ret rm G av (wl_ N ad ce μ) (fun A => qwl_ G A a (fun (_ : Unit) => wl_ N ad ce μ1)) := fun l sz => h l sz
theorem mw_v {y : MethodName} {bytes : ByteArray} {maxL : Nat} {rm : Room} {G : gp_} {N : Nat} {ad : Nat → Nat} {ce : Nat → (Int → Int) → va_E} {av : List Value} {μ μ1 : mu_T} (h : mv_ y bytes maxL rm G N ad ce av μ μ1) : mw_ y bytes maxL none rm G av (wl_ N ad ce μ) (fun A => qwv_ G A (fun (_ : Unit) => wl_ N ad ce μ1)) := fun l sz => h l sz
theorem mw_o {y : MethodName} {bytes : ByteArray} {maxL : Nat} {ret : Option FieldType} {rm : Room} {G : gp_} {N : Nat} {ad : Nat → Nat} {ce : Nat → (Int → Int) → va_E} {av : List Value} {μ μ1 : mu_T} {o : Nat} (h : mo_ y bytes maxL ret rm G N ad ce av μ o μ1) : mw_ y bytes maxL ret rm G av (wl_ N ad ce μ) (fun A => qwr_ G A (fun (_ : Unit) => ad o) (fun (_ : Unit) => wl_ N ad ce μ1)) := fun l sz => h l sz
theorem mw_g {y : MethodName} {bytes : ByteArray} {maxL : Nat} {ret : Option FieldType} {rm : Room} {G : gp_} {ad : Nat → Nat} {p q : Nat} {av : List Value} {μ μ1 : mu_T} {a : Int} (h : mgi_ y bytes maxL ret rm G ad p q av μ a μ1) : mw_ y bytes maxL ret rm G av (wl_ 151 (am_ ad p q) (ceX G (am_ ad p q)) μ) (fun A => qwi_ G A a (fun (u : Nat × Nat) => wl_ 151 (am_ ad u.1 u.2) (ceX G (am_ ad u.1 u.2)) μ1)) := fun l sz => h l sz
theorem mw_in {y : MethodName} {bytes : ByteArray} {maxL : Nat} {ret : Option FieldType} {rm : Room} {G : gp_} {av : List Value} {w0 : va_W} {Q : (Nat → Prop) → Array Value → State → Outcome → State → Prop} {own : String} (hy : plainName y.cls = true) (hown : y.cls = own) (hn : (lg_sl av).length ≤ maxL) (body : ∀ X : ct_, cx_ G X bytes own rm ret maxL → (y.name = "<init>" → nI_ X) → eg_ X rm Q → wv_ G X w0 0 0 0 (lv_args 0 av) []) : mw_ y bytes maxL ret rm G av w0 Q := by
  intro l sz
  refine Met.ofW (cc := bytes) (maxL := maxL) (ret := ret) hy rfl ?_
  intro p9 e9 s m args below meth c s₁ B hml hv
  obtain ⟨rfl, hsz, hP, hK, hD0, hbs, hg⟩ := hv
  subst hsz
  have hts := atoms_spec (ws := Cond.code y bytes maxL ret :: gT_) B.pre
  have hfc : s.vm.findClass y.cls = some m.cls := findClass_of_methodNamed B.named
  rw [lg_entry_eq]
  have hl := lv_entry av hn
  have hAb : ∀ x, va_A w0 s.heap.size x → G.2.2 ≤ x := fun x h => by
    rcases h with ⟨k, e, h⟩ | h
    · exact hD0.2 k _ h
    · exact Nat.le_trans hbs h
  exact body (p9, l, e9, (headSpec (Cond.code y bytes maxL ret :: gT_) rm).room, s, m, av.toArray, below, meth, c, _, va_A w0 s.heap.size, maxL)
    ⟨B.exec, B.bytes, fun w hw => hts w (List.mem_cons_of_mem _ hw), hown ▸ hfc, hK, fun q h => Or.inr h, hml, B.notSynchronized, hAb, rfl, B.returns, hg, rfl⟩ (fun hi => (name_of_methodNamed B.named B.method).1.trans hi) rfl s.heap [] _ (by rw [wl_L]; exact hP) (by rw [wl_L]; exact hD0.self (sz := s.heap.size)) va_S.rf hl
/-- a part of a world, and what the world becomes when the part does -/
def sw_ (D : va_G) (ws w0 : va_W) (j : va_W → va_W) : Prop := (∀ H, va_P D vwCl ws H → va_P D vwCl w0 H) ∧ (∀ A, va_D A ws → va_D A w0) ∧ ∀ (A : Nat → Prop) (H H1 : Heap) (w1 : va_W), va_P D vwCl ws H → va_D A ws → (∀ x : Nat, x < H.size → ¬ va_A w0 H.size x → H1[x]? = H[x]?) → (∀ x, va_A w0 H.size x → A x) → va_P D vwCl w1 H1 → va_D (va_A w0 H.size) w1 → va_P D vwCl (j w1) H1 ∧ va_D A (j w1)
theorem sw_l {D : va_G} {w0 w2 : va_W} : sw_ D (w0 ++ w2) w0 (fun w1 => w1 ++ w2) := ⟨fun _ h => yP_l h, fun _ h => yD_l h, fun A H H1 w1 hP hD hk hF hP1 hD1 => yjl_ hP hD hk hF hP1 hD1⟩
theorem sw_r {D : va_G} {w0 w2 : va_W} : sw_ D (w0 ++ w2) w2 (fun w1 => w0 ++ w1) := ⟨fun _ h => yP_r h, fun _ h => yD_r h, fun A H H1 w1 hP hD hk hF hP1 hD1 => yjr_ hP hD hk hF hP1 hD1⟩
theorem sw_a {D : va_G} {w0 : va_W} : sw_ D w0 w0 (fun w1 => w1) := ⟨fun _ h => h, fun _ h => h, fun A H H1 w1 _ _ _ hF hP1 hD1 => ⟨hP1, hD1.weaken (fun _ x _ h => hF x.1 h)⟩⟩
section XW
variable {G : gp_} {X : ct_} {ws w0 : va_W} {j : va_W → va_W} {k n pc : Nat} {lv lv1 : List (Nat × Value)} {st stk : List Value} {cc : ByteArray} {own : String} {rm : Room} {ret : Option FieldType} {nl : Nat}
theorem xw_retr (C : cx_ G X cc own rm ret nl) {S : Type} {o : S → Nat} {w : S → va_W} (E : eg_ X rm (fun A => qwr_ G A o w)) (hr : (∃ cn : String, ret = some (.object cn)) ∨ ret = some (.array .byte)) (u : S) {b : Nat} (hws : ws = w u) (hbo : b = o u) (hk : k ≤ rm.cells ∧ n ≤ rm.slots) (d : decode cc pc = .ok (.areturn, 1)) : wv_ G X ws k n pc lv [.ref b] := by
  subst hws
  subst hbo
  obtain ⟨p9, l, e, R, s, m, args, below, meth, c, Q, A, nL⟩ := X
  intro H locs ls hP hD hS hl
  rw [wl_L] at hP hD
  obtain ⟨hx, hb, -, -, hK, -, -, hlocks, -, -, hrt, -, -⟩ := C
  rw [show Q = _ from E]
  refine W.widen hk.1 hk.2 ?_
  rcases hr with ⟨cn, rfl⟩ | rfl
  · exact W.aret hx hb hrt (Or.inl ⟨_, rfl⟩) (Or.inr ⟨_, rfl⟩) (fun t ht hW => ⟨⟨u, _, rfl, trivial, rfl, by rw [ht]; exact hP, va_K.moved hW.alike hK, hD⟩, hS.F ht⟩) hS.2.2 d hlocks
  · exact W.aret hx hb hrt (Or.inr ⟨_, rfl⟩) (Or.inr ⟨_, rfl⟩) (fun t ht hW => ⟨⟨u, _, rfl, trivial, rfl, by rw [ht]; exact hP, va_K.moved hW.alike hK, hD⟩, hS.F ht⟩) hS.2.2 d hlocks
theorem xw_reti (C : cx_ G X cc own rm ret nl) {S : Type} {a : Int} {w : S → va_W} (E : eg_ X rm (fun A => qwi_ G A a w)) (hr : ret = some .int) (u : S) (hws : ws = w u) (hk : k ≤ rm.cells ∧ n ≤ rm.slots) (d : decode cc pc = .ok (.ireturn, 1)) : wv_ G X ws k n pc lv [.int (iI a)] := by
  subst hws
  obtain ⟨p9, l, e, R, s, m, args, below, meth, c, Q, A, nL⟩ := X
  intro H locs ls hP hD hS hl
  rw [wl_L] at hP hD
  obtain ⟨hx, hb, -, -, hK, -, -, hlocks, -, -, hrt, -, -⟩ := C
  subst hr
  rw [show Q = _ from E]
  refine W.widen hk.1 hk.2 ?_
  exact W.iret hx hb hrt (fun t ht hW => ⟨⟨_, u, rfl, rfl, by rw [ht]; exact hP, va_K.moved hW.alike hK, hD⟩, hS.F ht⟩) hS.2.2 d hlocks
theorem xw_retv (C : cx_ G X cc own rm ret nl) {S : Type} {w : S → va_W} (E : eg_ X rm (fun A => qwv_ G A w)) (hr : ret = none) (u : S) (hws : ws = w u) (hk : k ≤ rm.cells ∧ n ≤ rm.slots) (d : decode cc pc = .ok (.return_, 1)) : wv_ G X ws k n pc lv [] := by
  subst hws
  exact xv_ret (w := w) C E hr u hk d
theorem xw_cVi (C : cx_ G X cc own rm ret nl) (p1 : Nat) (hp : pc + 3 = p1) (hsp : sw_ G.1 ws w0 j) {y : MethodName} {bytes : ByteArray} {maxL nA index : Nat} {ret2 : Option FieldType} {rm2 : Room} {As : List Value} {S : Type} {w1 : S → va_W} {ci i0 a : Nat} {fs : List Value} {qc : vw_C} (hi : ws[i0]? = some (a, .inr (ci, fs))) (hc : vwCl[ci]? = some qc) (hcl : qc.1 = y.cls) (hca : ca_ y bytes maxL ret2 nA) (hcv : cv_ y) (m1 : Cond.methodLink own index y ∈ gT_) (hn : As.length = nA) (hR : rm2.frames + 1 ≤ rm.frames ∧ 8 + (maxL + 11) + rm2.locals ≤ rm.locals) (hf : k + rm2.cells ≤ rm.cells ∧ n + rm2.slots ≤ rm.slots) (hW : (st.map fun v => v.category).sum ≤ 8) (d : decode cc pc = .ok (.invokevirtual index, 3)) {av1 : Int} (hM : mw_ y bytes maxL ret2 rm2 G (.ref a :: As) w0 (fun A => qwi_ G A av1 w1)) (kk : ∀ u : S, wv_ G X (j (w1 u)) (k + rm2.cells) (n + rm2.slots) p1 lv (.int (iI av1) :: st)) (hst : stk = As.reverse ++ .ref a :: st) : wv_ G X ws k n pc lv stk := by
  obtain ⟨p9, l, e, R, s, m, args, below, meth, c, Q, A, nL⟩ := X
  intro H locs ls hP hD hS hl
  rw [wl_L] at hP hD
  subst hp
  have hts := C.2.2.1
  have hK := C.2.2.2.2.1
  have hA := C.2.2.2.2.2.1
  have hAb := C.2.2.2.2.2.2.2.2.1
  have hR' : R = rm := C.2.2.2.2.2.2.2.2.2.1
  have hg := C.2.2.2.2.2.2.2.2.2.2.2.1
  subst hR'
  have hsz : G.2.2 ≤ H.size := by
    have h1 := hAb s.heap.size (hA _ (Nat.le_refl _))
    exact Nat.le_trans h1 hS.1
  have hP0 := hsp.1 H hP
  have hD0 := hsp.2.1 A hD
  have hDb : va_D (fun x => G.2.2 ≤ x) w0 := hD0.weaken (fun _ x _ h => hAb x.1 h)
  have hgH : gk_ G s H := gk_kept hg (fun a h1 h2 => hS.2.1 a h1 (fun x => h2 (hAb a x)))
  have hF : ∀ x, va_A w0 H.size x → A x := fun x h => by
    rcases h with ⟨j, e9, h⟩ | h
    · exact hD0.2 j _ h
    · exact hA x (Nat.le_trans hS.1 h)
  have hpre : ∀ U : State, U.heap = H → s.WarmedH U.vm → pw_ G w0 H.size U := fun U hU hW9 => ⟨by rw [hU], by rw [hU]; exact hP0, va_K.moved hW9.alike hK, hDb, hsz, by rw [hU]; exact gk_warm hW9 hgH⟩
  subst hst
  have hM9 := hM l H.size
  have hpreV : ∀ U : State, U.heap = H → s.WarmedH U.vm → va_Pc (.ref a :: As) (pw_ G w0 H.size) (Value.ref a :: As).toArray U := fun U hU hW9 => ⟨rfl, hpre U hU hW9⟩
  refine va_calli (va_runV (rest := st) ⟨C.1, C.2.1, C.2.2.2.2.2.2.1, C.2.2.2.1, hts⟩ hM9 ⟨callB_of nA hts (gT_in hca.2.1) rfl rfl rfl (hts _ hca.1) (hts _ m1) hca.2.2 hR, hts _ hcv.1, hts _ hcv.2⟩ ⟨(fun a U g mk x => by obtain ⟨q0, q1, qP, qK, qD, q2, q3⟩ := x; exact ⟨q0, q1, qP, va_K.moved (u := U) (U := U.calling g mk a) (Vm.Alike.refl U.vm) qK, qD, q2, gk_same (u := U) (U := U.calling g mk a) rfl q3⟩), (by have h9 := va_recv hK hP hc hi; rw [hcl] at h9; exact h9), hpreV⟩ rfl hn hl.1 rfl (lv_room hW) d hf) hS (fun x _ h => hF x h) hF (fun r9 u t H1 locs1 ht hvm hw hB hz1 hk1 hS1 => ?_)
  obtain ⟨hP1, hK1, hD1⟩ := hB
  rw [ht] at hP1
  rw [hw]
  obtain ⟨hP2, hD2⟩ := hsp.2.2 A H H1 _ hP hD hk1 hF hP1 hD1
  exact kk u H1 locs1 ls (by rw [wl_L]; exact hP2) (by rw [wl_L]; exact hD2) hS1 hl
theorem xw_cVr (C : cx_ G X cc own rm ret nl) (p1 : Nat) (hp : pc + 3 = p1) (hsp : sw_ G.1 ws w0 j) {y : MethodName} {bytes : ByteArray} {maxL nA index : Nat} {ret2 : Option FieldType} {rm2 : Room} {As : List Value} {S : Type} {w1 : S → va_W} {ci i0 a : Nat} {fs : List Value} {qc : vw_C} (hi : ws[i0]? = some (a, .inr (ci, fs))) (hc : vwCl[ci]? = some qc) (hcl : qc.1 = y.cls) (hca : ca_ y bytes maxL ret2 nA) (hcv : cv_ y) (m1 : Cond.methodLink own index y ∈ gT_) (hn : As.length = nA) (hR : rm2.frames + 1 ≤ rm.frames ∧ 8 + (maxL + 11) + rm2.locals ≤ rm.locals) (hf : k + rm2.cells ≤ rm.cells ∧ n + rm2.slots ≤ rm.slots) (hW : (st.map fun v => v.category).sum ≤ 8) (d : decode cc pc = .ok (.invokevirtual index, 3)) {o1 : S → Nat} (hM : mw_ y bytes maxL ret2 rm2 G (.ref a :: As) w0 (fun A => qwr_ G A o1 w1)) (kk : ∀ u : S, wv_ G X (j (w1 u)) (k + rm2.cells) (n + rm2.slots) p1 lv (.ref (o1 u) :: st)) (hst : stk = As.reverse ++ .ref a :: st) : wv_ G X ws k n pc lv stk := by
  obtain ⟨p9, l, e, R, s, m, args, below, meth, c, Q, A, nL⟩ := X
  intro H locs ls hP hD hS hl
  rw [wl_L] at hP hD
  subst hp
  have hts := C.2.2.1
  have hK := C.2.2.2.2.1
  have hA := C.2.2.2.2.2.1
  have hAb := C.2.2.2.2.2.2.2.2.1
  have hR' : R = rm := C.2.2.2.2.2.2.2.2.2.1
  have hg := C.2.2.2.2.2.2.2.2.2.2.2.1
  subst hR'
  have hsz : G.2.2 ≤ H.size := by
    have h1 := hAb s.heap.size (hA _ (Nat.le_refl _))
    exact Nat.le_trans h1 hS.1
  have hP0 := hsp.1 H hP
  have hD0 := hsp.2.1 A hD
  have hDb : va_D (fun x => G.2.2 ≤ x) w0 := hD0.weaken (fun _ x _ h => hAb x.1 h)
  have hgH : gk_ G s H := gk_kept hg (fun a h1 h2 => hS.2.1 a h1 (fun x => h2 (hAb a x)))
  have hF : ∀ x, va_A w0 H.size x → A x := fun x h => by
    rcases h with ⟨j, e9, h⟩ | h
    · exact hD0.2 j _ h
    · exact hA x (Nat.le_trans hS.1 h)
  have hpre : ∀ U : State, U.heap = H → s.WarmedH U.vm → pw_ G w0 H.size U := fun U hU hW9 => ⟨by rw [hU], by rw [hU]; exact hP0, va_K.moved hW9.alike hK, hDb, hsz, by rw [hU]; exact gk_warm hW9 hgH⟩
  subst hst
  have hM9 := hM l H.size
  have hpreV : ∀ U : State, U.heap = H → s.WarmedH U.vm → va_Pc (.ref a :: As) (pw_ G w0 H.size) (Value.ref a :: As).toArray U := fun U hU hW9 => ⟨rfl, hpre U hU hW9⟩
  refine va_callr (va_runV (rest := st) ⟨C.1, C.2.1, C.2.2.2.2.2.2.1, C.2.2.2.1, hts⟩ hM9 ⟨callB_of nA hts (gT_in hca.2.1) rfl rfl rfl (hts _ hca.1) (hts _ m1) hca.2.2 hR, hts _ hcv.1, hts _ hcv.2⟩ ⟨(fun a U g mk x => by obtain ⟨q0, q1, qP, qK, qD, q2, q3⟩ := x; exact ⟨q0, q1, qP, va_K.moved (u := U) (U := U.calling g mk a) (Vm.Alike.refl U.vm) qK, qD, q2, gk_same (u := U) (U := U.calling g mk a) rfl q3⟩), (by have h9 := va_recv hK hP hc hi; rw [hcl] at h9; exact h9), hpreV⟩ rfl hn hl.1 rfl (lv_room hW) d hf) hS (fun x _ h => hF x h) hF (fun u ra t H1 locs1 ht hvm hw hB hz1 hk1 hS1 => ?_)
  obtain ⟨hra, hP1, hK1, hD1⟩ := hB
  rw [ht] at hP1
  rw [hra]
  obtain ⟨hP2, hD2⟩ := hsp.2.2 A H H1 _ hP hD hk1 hF hP1 hD1
  exact kk u H1 locs1 ls (by rw [wl_L]; exact hP2) (by rw [wl_L]; exact hD2) hS1 hl
theorem xw_cVv (C : cx_ G X cc own rm ret nl) (p1 : Nat) (hp : pc + 3 = p1) (hsp : sw_ G.1 ws w0 j) {y : MethodName} {bytes : ByteArray} {maxL nA index : Nat} {rm2 : Room} {As : List Value} {S : Type} {w1 : S → va_W} {ci i0 a : Nat} {fs : List Value} {qc : vw_C} (hi : ws[i0]? = some (a, .inr (ci, fs))) (hc : vwCl[ci]? = some qc) (hcl : qc.1 = y.cls) (hca : ca_ y bytes maxL none nA) (hcv : cv_ y) (m1 : Cond.methodLink own index y ∈ gT_) (hn : As.length = nA) (hR : rm2.frames + 1 ≤ rm.frames ∧ 8 + (maxL + 11) + rm2.locals ≤ rm.locals) (hf : k + rm2.cells ≤ rm.cells ∧ n + rm2.slots ≤ rm.slots) (hW : (st.map fun v => v.category).sum ≤ 8) (d : decode cc pc = .ok (.invokevirtual index, 3)) (hM : mw_ y bytes maxL none rm2 G (.ref a :: As) w0 (fun A => qwv_ G A w1)) (kk : ∀ u : S, wv_ G X (j (w1 u)) (k + rm2.cells) (n + rm2.slots) p1 lv st) (hst : stk = As.reverse ++ .ref a :: st) : wv_ G X ws k n pc lv stk := by
  obtain ⟨p9, l, e, R, s, m, args, below, meth, c, Q, A, nL⟩ := X
  intro H locs ls hP hD hS hl
  rw [wl_L] at hP hD
  subst hp
  have hts := C.2.2.1
  have hK := C.2.2.2.2.1
  have hA := C.2.2.2.2.2.1
  have hAb := C.2.2.2.2.2.2.2.2.1
  have hR' : R = rm := C.2.2.2.2.2.2.2.2.2.1
  have hg := C.2.2.2.2.2.2.2.2.2.2.2.1
  subst hR'
  have hsz : G.2.2 ≤ H.size := by
    have h1 := hAb s.heap.size (hA _ (Nat.le_refl _))
    exact Nat.le_trans h1 hS.1
  have hP0 := hsp.1 H hP
  have hD0 := hsp.2.1 A hD
  have hDb : va_D (fun x => G.2.2 ≤ x) w0 := hD0.weaken (fun _ x _ h => hAb x.1 h)
  have hgH : gk_ G s H := gk_kept hg (fun a h1 h2 => hS.2.1 a h1 (fun x => h2 (hAb a x)))
  have hF : ∀ x, va_A w0 H.size x → A x := fun x h => by
    rcases h with ⟨j, e9, h⟩ | h
    · exact hD0.2 j _ h
    · exact hA x (Nat.le_trans hS.1 h)
  have hpre : ∀ U : State, U.heap = H → s.WarmedH U.vm → pw_ G w0 H.size U := fun U hU hW9 => ⟨by rw [hU], by rw [hU]; exact hP0, va_K.moved hW9.alike hK, hDb, hsz, by rw [hU]; exact gk_warm hW9 hgH⟩
  subst hst
  have hM9 := hM l H.size
  have hpreV : ∀ U : State, U.heap = H → s.WarmedH U.vm → va_Pc (.ref a :: As) (pw_ G w0 H.size) (Value.ref a :: As).toArray U := fun U hU hW9 => ⟨rfl, hpre U hU hW9⟩
  refine va_callv (va_runV (rest := st) ⟨C.1, C.2.1, C.2.2.2.2.2.2.1, C.2.2.2.1, hts⟩ hM9 ⟨callB_of nA hts (gT_in hca.2.1) rfl rfl rfl (hts _ hca.1) (hts _ m1) hca.2.2 hR, hts _ hcv.1, hts _ hcv.2⟩ ⟨(fun a U g mk x => by obtain ⟨q0, q1, qP, qK, qD, q2, q3⟩ := x; exact ⟨q0, q1, qP, va_K.moved (u := U) (U := U.calling g mk a) (Vm.Alike.refl U.vm) qK, qD, q2, gk_same (u := U) (U := U.calling g mk a) rfl q3⟩), (by have h9 := va_recv hK hP hc hi; rw [hcl] at h9; exact h9), hpreV⟩ rfl hn hl.1 rfl (lv_room hW) d hf) hS (fun x _ h => hF x h) hF (fun u t H1 locs1 ht hvm hw hB hz1 hk1 hS1 => ?_)
  obtain ⟨hP1, hK1, hD1⟩ := hB
  rw [ht] at hP1
  obtain ⟨hP2, hD2⟩ := hsp.2.2 A H H1 _ hP hD hk1 hF hP1 hD1
  exact kk u H1 locs1 ls (by rw [wl_L]; exact hP2) (by rw [wl_L]; exact hD2) hS1 hl
theorem xw_cUi (C : cx_ G X cc own rm ret nl) (p1 : Nat) (hp : pc + 3 = p1) (hsp : sw_ G.1 ws w0 j) {y : MethodName} {bytes : ByteArray} {maxL nA index : Nat} {ret2 : Option FieldType} {rm2 : Room} {As : List Value} {S : Type} {w1 : S → va_W} {ci i0 a : Nat} {fs : List Value} {qc : vw_C} (hi : ws[i0]? = some (a, .inr (ci, fs))) (hc : vwCl[ci]? = some qc) (hca : ca_ y bytes maxL ret2 nA) (hcu : cu_ y) (hse : se_ G qc.1 y y) (m1 : Cond.methodLink own index y ∈ gT_) (hn : As.length = nA) (hR : rm2.frames + 1 ≤ rm.frames ∧ 8 + (maxL + 11) + rm2.locals ≤ rm.locals) (hf : k + rm2.cells ≤ rm.cells ∧ n + rm2.slots ≤ rm.slots) (hW : (st.map fun v => v.category).sum ≤ 8) (d : decode cc pc = .ok (.invokevirtual index, 3)) {av1 : Int} (hM : mw_ y bytes maxL ret2 rm2 G (.ref a :: As) w0 (fun A => qwi_ G A av1 w1)) (kk : ∀ u : S, wv_ G X (j (w1 u)) (k + rm2.cells) (n + rm2.slots) p1 lv (.int (iI av1) :: st)) (hst : stk = As.reverse ++ .ref a :: st) : wv_ G X ws k n pc lv stk := by
  obtain ⟨p9, l, e, R, s, m, args, below, meth, c, Q, A, nL⟩ := X
  intro H locs ls hP hD hS hl
  rw [wl_L] at hP hD
  subst hp
  have hts := C.2.2.1
  have hK := C.2.2.2.2.1
  have hA := C.2.2.2.2.2.1
  have hAb := C.2.2.2.2.2.2.2.2.1
  have hR' : R = rm := C.2.2.2.2.2.2.2.2.2.1
  have hg := C.2.2.2.2.2.2.2.2.2.2.2.1
  subst hR'
  have hsz : G.2.2 ≤ H.size := by
    have h1 := hAb s.heap.size (hA _ (Nat.le_refl _))
    exact Nat.le_trans h1 hS.1
  have hP0 := hsp.1 H hP
  have hD0 := hsp.2.1 A hD
  have hDb : va_D (fun x => G.2.2 ≤ x) w0 := hD0.weaken (fun _ x _ h => hAb x.1 h)
  have hgH : gk_ G s H := gk_kept hg (fun a h1 h2 => hS.2.1 a h1 (fun x => h2 (hAb a x)))
  have hF : ∀ x, va_A w0 H.size x → A x := fun x h => by
    rcases h with ⟨j, e9, h⟩ | h
    · exact hD0.2 j _ h
    · exact hA x (Nat.le_trans hS.1 h)
  have hpre : ∀ U : State, U.heap = H → s.WarmedH U.vm → pw_ G w0 H.size U := fun U hU hW9 => ⟨by rw [hU], by rw [hU]; exact hP0, va_K.moved hW9.alike hK, hDb, hsz, by rw [hU]; exact gk_warm hW9 hgH⟩
  subst hst
  have hM9 := hM l H.size
  have hpreV : ∀ U : State, U.heap = H → s.WarmedH U.vm → va_Pc (.ref a :: As) (pw_ G w0 H.size) (Value.ref a :: As).toArray U := fun U hU hW9 => ⟨rfl, hpre U hU hW9⟩
  refine va_calli (va_runU (C := qc.1) (owner := y.cls) (rest := st) ⟨C.1, C.2.1, C.2.2.2.2.2.2.1, C.2.2.2.1, hts⟩ hM9 ⟨⟨rfl, rfl, hR.1, hR.2, pay_in hts (gT_in hca.2.1), List.mem_cons_self⟩, hts _ hca.2.1, hts _ hca.1, ⟨hca.2.2.1, hca.2.2.2.1⟩, (fun sig h9 => by have h2 := hca.2.2.2.2; rw [h9] at h2; exact (Option.some.inj h2).symm), hts _ m1, hts _ hcu.1, va_Decl.of (hts _ hcu.2.1) (hts _ hca.2.1), hse s s.heap args hts hg, hts _ hcu.2.1⟩ ⟨(fun a U g mk x => by obtain ⟨q0, q1, qP, qK, qD, q2, q3⟩ := x; exact ⟨q0, q1, qP, va_K.moved (u := U) (U := U.calling g mk a) (Vm.Alike.refl U.vm) qK, qD, q2, gk_same (u := U) (U := U.calling g mk a) rfl q3⟩), va_recv hK hP hc hi, hpreV⟩ rfl hn hl.1 rfl (lv_room hW) d hf) hS (fun x _ h => hF x h) hF (fun r9 u t H1 locs1 ht hvm hw hB hz1 hk1 hS1 => ?_)
  obtain ⟨hP1, hK1, hD1⟩ := hB
  rw [ht] at hP1
  rw [hw]
  obtain ⟨hP2, hD2⟩ := hsp.2.2 A H H1 _ hP hD hk1 hF hP1 hD1
  exact kk u H1 locs1 ls (by rw [wl_L]; exact hP2) (by rw [wl_L]; exact hD2) hS1 hl
theorem xw_cUr (C : cx_ G X cc own rm ret nl) (p1 : Nat) (hp : pc + 3 = p1) (hsp : sw_ G.1 ws w0 j) {y : MethodName} {bytes : ByteArray} {maxL nA index : Nat} {ret2 : Option FieldType} {rm2 : Room} {As : List Value} {S : Type} {w1 : S → va_W} {ci i0 a : Nat} {fs : List Value} {qc : vw_C} (hi : ws[i0]? = some (a, .inr (ci, fs))) (hc : vwCl[ci]? = some qc) (hca : ca_ y bytes maxL ret2 nA) (hcu : cu_ y) (hse : se_ G qc.1 y y) (m1 : Cond.methodLink own index y ∈ gT_) (hn : As.length = nA) (hR : rm2.frames + 1 ≤ rm.frames ∧ 8 + (maxL + 11) + rm2.locals ≤ rm.locals) (hf : k + rm2.cells ≤ rm.cells ∧ n + rm2.slots ≤ rm.slots) (hW : (st.map fun v => v.category).sum ≤ 8) (d : decode cc pc = .ok (.invokevirtual index, 3)) {o1 : S → Nat} (hM : mw_ y bytes maxL ret2 rm2 G (.ref a :: As) w0 (fun A => qwr_ G A o1 w1)) (kk : ∀ u : S, wv_ G X (j (w1 u)) (k + rm2.cells) (n + rm2.slots) p1 lv (.ref (o1 u) :: st)) (hst : stk = As.reverse ++ .ref a :: st) : wv_ G X ws k n pc lv stk := by
  obtain ⟨p9, l, e, R, s, m, args, below, meth, c, Q, A, nL⟩ := X
  intro H locs ls hP hD hS hl
  rw [wl_L] at hP hD
  subst hp
  have hts := C.2.2.1
  have hK := C.2.2.2.2.1
  have hA := C.2.2.2.2.2.1
  have hAb := C.2.2.2.2.2.2.2.2.1
  have hR' : R = rm := C.2.2.2.2.2.2.2.2.2.1
  have hg := C.2.2.2.2.2.2.2.2.2.2.2.1
  subst hR'
  have hsz : G.2.2 ≤ H.size := by
    have h1 := hAb s.heap.size (hA _ (Nat.le_refl _))
    exact Nat.le_trans h1 hS.1
  have hP0 := hsp.1 H hP
  have hD0 := hsp.2.1 A hD
  have hDb : va_D (fun x => G.2.2 ≤ x) w0 := hD0.weaken (fun _ x _ h => hAb x.1 h)
  have hgH : gk_ G s H := gk_kept hg (fun a h1 h2 => hS.2.1 a h1 (fun x => h2 (hAb a x)))
  have hF : ∀ x, va_A w0 H.size x → A x := fun x h => by
    rcases h with ⟨j, e9, h⟩ | h
    · exact hD0.2 j _ h
    · exact hA x (Nat.le_trans hS.1 h)
  have hpre : ∀ U : State, U.heap = H → s.WarmedH U.vm → pw_ G w0 H.size U := fun U hU hW9 => ⟨by rw [hU], by rw [hU]; exact hP0, va_K.moved hW9.alike hK, hDb, hsz, by rw [hU]; exact gk_warm hW9 hgH⟩
  subst hst
  have hM9 := hM l H.size
  have hpreV : ∀ U : State, U.heap = H → s.WarmedH U.vm → va_Pc (.ref a :: As) (pw_ G w0 H.size) (Value.ref a :: As).toArray U := fun U hU hW9 => ⟨rfl, hpre U hU hW9⟩
  refine va_callr (va_runU (C := qc.1) (owner := y.cls) (rest := st) ⟨C.1, C.2.1, C.2.2.2.2.2.2.1, C.2.2.2.1, hts⟩ hM9 ⟨⟨rfl, rfl, hR.1, hR.2, pay_in hts (gT_in hca.2.1), List.mem_cons_self⟩, hts _ hca.2.1, hts _ hca.1, ⟨hca.2.2.1, hca.2.2.2.1⟩, (fun sig h9 => by have h2 := hca.2.2.2.2; rw [h9] at h2; exact (Option.some.inj h2).symm), hts _ m1, hts _ hcu.1, va_Decl.of (hts _ hcu.2.1) (hts _ hca.2.1), hse s s.heap args hts hg, hts _ hcu.2.1⟩ ⟨(fun a U g mk x => by obtain ⟨q0, q1, qP, qK, qD, q2, q3⟩ := x; exact ⟨q0, q1, qP, va_K.moved (u := U) (U := U.calling g mk a) (Vm.Alike.refl U.vm) qK, qD, q2, gk_same (u := U) (U := U.calling g mk a) rfl q3⟩), va_recv hK hP hc hi, hpreV⟩ rfl hn hl.1 rfl (lv_room hW) d hf) hS (fun x _ h => hF x h) hF (fun u ra t H1 locs1 ht hvm hw hB hz1 hk1 hS1 => ?_)
  obtain ⟨hra, hP1, hK1, hD1⟩ := hB
  rw [ht] at hP1
  rw [hra]
  obtain ⟨hP2, hD2⟩ := hsp.2.2 A H H1 _ hP hD hk1 hF hP1 hD1
  exact kk u H1 locs1 ls (by rw [wl_L]; exact hP2) (by rw [wl_L]; exact hD2) hS1 hl
theorem xw_cUv (C : cx_ G X cc own rm ret nl) (p1 : Nat) (hp : pc + 3 = p1) (hsp : sw_ G.1 ws w0 j) {y : MethodName} {bytes : ByteArray} {maxL nA index : Nat} {rm2 : Room} {As : List Value} {S : Type} {w1 : S → va_W} {ci i0 a : Nat} {fs : List Value} {qc : vw_C} (hi : ws[i0]? = some (a, .inr (ci, fs))) (hc : vwCl[ci]? = some qc) (hca : ca_ y bytes maxL none nA) (hcu : cu_ y) (hse : se_ G qc.1 y y) (m1 : Cond.methodLink own index y ∈ gT_) (hn : As.length = nA) (hR : rm2.frames + 1 ≤ rm.frames ∧ 8 + (maxL + 11) + rm2.locals ≤ rm.locals) (hf : k + rm2.cells ≤ rm.cells ∧ n + rm2.slots ≤ rm.slots) (hW : (st.map fun v => v.category).sum ≤ 8) (d : decode cc pc = .ok (.invokevirtual index, 3)) (hM : mw_ y bytes maxL none rm2 G (.ref a :: As) w0 (fun A => qwv_ G A w1)) (kk : ∀ u : S, wv_ G X (j (w1 u)) (k + rm2.cells) (n + rm2.slots) p1 lv st) (hst : stk = As.reverse ++ .ref a :: st) : wv_ G X ws k n pc lv stk := by
  obtain ⟨p9, l, e, R, s, m, args, below, meth, c, Q, A, nL⟩ := X
  intro H locs ls hP hD hS hl
  rw [wl_L] at hP hD
  subst hp
  have hts := C.2.2.1
  have hK := C.2.2.2.2.1
  have hA := C.2.2.2.2.2.1
  have hAb := C.2.2.2.2.2.2.2.2.1
  have hR' : R = rm := C.2.2.2.2.2.2.2.2.2.1
  have hg := C.2.2.2.2.2.2.2.2.2.2.2.1
  subst hR'
  have hsz : G.2.2 ≤ H.size := by
    have h1 := hAb s.heap.size (hA _ (Nat.le_refl _))
    exact Nat.le_trans h1 hS.1
  have hP0 := hsp.1 H hP
  have hD0 := hsp.2.1 A hD
  have hDb : va_D (fun x => G.2.2 ≤ x) w0 := hD0.weaken (fun _ x _ h => hAb x.1 h)
  have hgH : gk_ G s H := gk_kept hg (fun a h1 h2 => hS.2.1 a h1 (fun x => h2 (hAb a x)))
  have hF : ∀ x, va_A w0 H.size x → A x := fun x h => by
    rcases h with ⟨j, e9, h⟩ | h
    · exact hD0.2 j _ h
    · exact hA x (Nat.le_trans hS.1 h)
  have hpre : ∀ U : State, U.heap = H → s.WarmedH U.vm → pw_ G w0 H.size U := fun U hU hW9 => ⟨by rw [hU], by rw [hU]; exact hP0, va_K.moved hW9.alike hK, hDb, hsz, by rw [hU]; exact gk_warm hW9 hgH⟩
  subst hst
  have hM9 := hM l H.size
  have hpreV : ∀ U : State, U.heap = H → s.WarmedH U.vm → va_Pc (.ref a :: As) (pw_ G w0 H.size) (Value.ref a :: As).toArray U := fun U hU hW9 => ⟨rfl, hpre U hU hW9⟩
  refine va_callv (va_runU (C := qc.1) (owner := y.cls) (rest := st) ⟨C.1, C.2.1, C.2.2.2.2.2.2.1, C.2.2.2.1, hts⟩ hM9 ⟨⟨rfl, rfl, hR.1, hR.2, pay_in hts (gT_in hca.2.1), List.mem_cons_self⟩, hts _ hca.2.1, hts _ hca.1, ⟨hca.2.2.1, hca.2.2.2.1⟩, (fun sig h9 => by have h2 := hca.2.2.2.2; rw [h9] at h2; exact (Option.some.inj h2).symm), hts _ m1, hts _ hcu.1, va_Decl.of (hts _ hcu.2.1) (hts _ hca.2.1), hse s s.heap args hts hg, hts _ hcu.2.1⟩ ⟨(fun a U g mk x => by obtain ⟨q0, q1, qP, qK, qD, q2, q3⟩ := x; exact ⟨q0, q1, qP, va_K.moved (u := U) (U := U.calling g mk a) (Vm.Alike.refl U.vm) qK, qD, q2, gk_same (u := U) (U := U.calling g mk a) rfl q3⟩), va_recv hK hP hc hi, hpreV⟩ rfl hn hl.1 rfl (lv_room hW) d hf) hS (fun x _ h => hF x h) hF (fun u t H1 locs1 ht hvm hw hB hz1 hk1 hS1 => ?_)
  obtain ⟨hP1, hK1, hD1⟩ := hB
  rw [ht] at hP1
  obtain ⟨hP2, hD2⟩ := hsp.2.2 A H H1 _ hP hD hk1 hF hP1 hD1
  exact kk u H1 locs1 ls (by rw [wl_L]; exact hP2) (by rw [wl_L]; exact hD2) hS1 hl
theorem xw_cSi (C : cx_ G X cc own rm ret nl) (p1 : Nat) (hp : pc + 3 = p1) (hsp : sw_ G.1 ws w0 j) {y : MethodName} {bytes : ByteArray} {maxL nA index : Nat} {ret2 : Option FieldType} {rm2 : Room} {As : List Value} {S : Type} {w1 : S → va_W} (hca : ca_ y bytes maxL ret2 nA) (hcs : Cond.static y ∈ gT_) (m1 : Cond.methodLink own index y ∈ gT_) (hn : As.length = nA) (hR : rm2.frames + 1 ≤ rm.frames ∧ 8 + (maxL + 11) + rm2.locals ≤ rm.locals) (hf : k + rm2.cells ≤ rm.cells ∧ n + rm2.slots ≤ rm.slots) (hW : (st.map fun v => v.category).sum ≤ 8) (d : decode cc pc = .ok (.invokestatic index, 3)) {av1 : Int} (hM : mw_ y bytes maxL ret2 rm2 G As w0 (fun A => qwi_ G A av1 w1)) (kk : ∀ u : S, wv_ G X (j (w1 u)) (k + rm2.cells) (n + rm2.slots) p1 lv (.int (iI av1) :: st)) (hst : stk = As.reverse ++ st) : wv_ G X ws k n pc lv stk := by
  obtain ⟨p9, l, e, R, s, m, args, below, meth, c, Q, A, nL⟩ := X
  intro H locs ls hP hD hS hl
  rw [wl_L] at hP hD
  subst hp
  have hts := C.2.2.1
  have hK := C.2.2.2.2.1
  have hA := C.2.2.2.2.2.1
  have hAb := C.2.2.2.2.2.2.2.2.1
  have hR' : R = rm := C.2.2.2.2.2.2.2.2.2.1
  have hg := C.2.2.2.2.2.2.2.2.2.2.2.1
  subst hR'
  have hsz : G.2.2 ≤ H.size := by
    have h1 := hAb s.heap.size (hA _ (Nat.le_refl _))
    exact Nat.le_trans h1 hS.1
  have hP0 := hsp.1 H hP
  have hD0 := hsp.2.1 A hD
  have hDb : va_D (fun x => G.2.2 ≤ x) w0 := hD0.weaken (fun _ x _ h => hAb x.1 h)
  have hgH : gk_ G s H := gk_kept hg (fun a h1 h2 => hS.2.1 a h1 (fun x => h2 (hAb a x)))
  have hF : ∀ x, va_A w0 H.size x → A x := fun x h => by
    rcases h with ⟨j, e9, h⟩ | h
    · exact hD0.2 j _ h
    · exact hA x (Nat.le_trans hS.1 h)
  have hpre : ∀ U : State, U.heap = H → s.WarmedH U.vm → pw_ G w0 H.size U := fun U hU hW9 => ⟨by rw [hU], by rw [hU]; exact hP0, va_K.moved hW9.alike hK, hDb, hsz, by rw [hU]; exact gk_warm hW9 hgH⟩
  subst hst
  have hM9 := hM l H.size
  have hpreV : ∀ U : State, U.heap = H → s.WarmedH U.vm → va_Pc As (pw_ G w0 H.size) As.toArray U := fun U hU hW9 => ⟨rfl, hpre U hU hW9⟩
  refine va_calli (va_runS (rest := st) ⟨C.1, C.2.1, C.2.2.2.2.2.2.1, C.2.2.2.1, hts⟩ hM9 ⟨callB_of nA hts (gT_in hca.2.1) rfl rfl rfl (hts _ hca.1) (hts _ m1) hca.2.2 hR, hts _ hcs⟩ ⟨(fun a U g mk x => by obtain ⟨q0, q1, qP, qK, qD, q2, q3⟩ := x; exact ⟨q0, q1, qP, va_K.moved (u := U) (U := U.calling g mk a) (Vm.Alike.refl U.vm) qK, qD, q2, gk_same (u := U) (U := U.calling g mk a) rfl q3⟩), hpreV⟩ rfl hn hl.1 rfl (lv_room hW) d hf) hS (fun x _ h => hF x h) hF (fun r9 u t H1 locs1 ht hvm hw hB hz1 hk1 hS1 => ?_)
  obtain ⟨hP1, hK1, hD1⟩ := hB
  rw [ht] at hP1
  rw [hw]
  obtain ⟨hP2, hD2⟩ := hsp.2.2 A H H1 _ hP hD hk1 hF hP1 hD1
  exact kk u H1 locs1 ls (by rw [wl_L]; exact hP2) (by rw [wl_L]; exact hD2) hS1 hl
theorem xw_cSr (C : cx_ G X cc own rm ret nl) (p1 : Nat) (hp : pc + 3 = p1) (hsp : sw_ G.1 ws w0 j) {y : MethodName} {bytes : ByteArray} {maxL nA index : Nat} {ret2 : Option FieldType} {rm2 : Room} {As : List Value} {S : Type} {w1 : S → va_W} (hca : ca_ y bytes maxL ret2 nA) (hcs : Cond.static y ∈ gT_) (m1 : Cond.methodLink own index y ∈ gT_) (hn : As.length = nA) (hR : rm2.frames + 1 ≤ rm.frames ∧ 8 + (maxL + 11) + rm2.locals ≤ rm.locals) (hf : k + rm2.cells ≤ rm.cells ∧ n + rm2.slots ≤ rm.slots) (hW : (st.map fun v => v.category).sum ≤ 8) (d : decode cc pc = .ok (.invokestatic index, 3)) {o1 : S → Nat} (hM : mw_ y bytes maxL ret2 rm2 G As w0 (fun A => qwr_ G A o1 w1)) (kk : ∀ u : S, wv_ G X (j (w1 u)) (k + rm2.cells) (n + rm2.slots) p1 lv (.ref (o1 u) :: st)) (hst : stk = As.reverse ++ st) : wv_ G X ws k n pc lv stk := by
  obtain ⟨p9, l, e, R, s, m, args, below, meth, c, Q, A, nL⟩ := X
  intro H locs ls hP hD hS hl
  rw [wl_L] at hP hD
  subst hp
  have hts := C.2.2.1
  have hK := C.2.2.2.2.1
  have hA := C.2.2.2.2.2.1
  have hAb := C.2.2.2.2.2.2.2.2.1
  have hR' : R = rm := C.2.2.2.2.2.2.2.2.2.1
  have hg := C.2.2.2.2.2.2.2.2.2.2.2.1
  subst hR'
  have hsz : G.2.2 ≤ H.size := by
    have h1 := hAb s.heap.size (hA _ (Nat.le_refl _))
    exact Nat.le_trans h1 hS.1
  have hP0 := hsp.1 H hP
  have hD0 := hsp.2.1 A hD
  have hDb : va_D (fun x => G.2.2 ≤ x) w0 := hD0.weaken (fun _ x _ h => hAb x.1 h)
  have hgH : gk_ G s H := gk_kept hg (fun a h1 h2 => hS.2.1 a h1 (fun x => h2 (hAb a x)))
  have hF : ∀ x, va_A w0 H.size x → A x := fun x h => by
    rcases h with ⟨j, e9, h⟩ | h
    · exact hD0.2 j _ h
    · exact hA x (Nat.le_trans hS.1 h)
  have hpre : ∀ U : State, U.heap = H → s.WarmedH U.vm → pw_ G w0 H.size U := fun U hU hW9 => ⟨by rw [hU], by rw [hU]; exact hP0, va_K.moved hW9.alike hK, hDb, hsz, by rw [hU]; exact gk_warm hW9 hgH⟩
  subst hst
  have hM9 := hM l H.size
  have hpreV : ∀ U : State, U.heap = H → s.WarmedH U.vm → va_Pc As (pw_ G w0 H.size) As.toArray U := fun U hU hW9 => ⟨rfl, hpre U hU hW9⟩
  refine va_callr (va_runS (rest := st) ⟨C.1, C.2.1, C.2.2.2.2.2.2.1, C.2.2.2.1, hts⟩ hM9 ⟨callB_of nA hts (gT_in hca.2.1) rfl rfl rfl (hts _ hca.1) (hts _ m1) hca.2.2 hR, hts _ hcs⟩ ⟨(fun a U g mk x => by obtain ⟨q0, q1, qP, qK, qD, q2, q3⟩ := x; exact ⟨q0, q1, qP, va_K.moved (u := U) (U := U.calling g mk a) (Vm.Alike.refl U.vm) qK, qD, q2, gk_same (u := U) (U := U.calling g mk a) rfl q3⟩), hpreV⟩ rfl hn hl.1 rfl (lv_room hW) d hf) hS (fun x _ h => hF x h) hF (fun u ra t H1 locs1 ht hvm hw hB hz1 hk1 hS1 => ?_)
  obtain ⟨hra, hP1, hK1, hD1⟩ := hB
  rw [ht] at hP1
  rw [hra]
  obtain ⟨hP2, hD2⟩ := hsp.2.2 A H H1 _ hP hD hk1 hF hP1 hD1
  exact kk u H1 locs1 ls (by rw [wl_L]; exact hP2) (by rw [wl_L]; exact hD2) hS1 hl
theorem xw_cSv (C : cx_ G X cc own rm ret nl) (p1 : Nat) (hp : pc + 3 = p1) (hsp : sw_ G.1 ws w0 j) {y : MethodName} {bytes : ByteArray} {maxL nA index : Nat} {rm2 : Room} {As : List Value} {S : Type} {w1 : S → va_W} (hca : ca_ y bytes maxL none nA) (hcs : Cond.static y ∈ gT_) (m1 : Cond.methodLink own index y ∈ gT_) (hn : As.length = nA) (hR : rm2.frames + 1 ≤ rm.frames ∧ 8 + (maxL + 11) + rm2.locals ≤ rm.locals) (hf : k + rm2.cells ≤ rm.cells ∧ n + rm2.slots ≤ rm.slots) (hW : (st.map fun v => v.category).sum ≤ 8) (d : decode cc pc = .ok (.invokestatic index, 3)) (hM : mw_ y bytes maxL none rm2 G As w0 (fun A => qwv_ G A w1)) (kk : ∀ u : S, wv_ G X (j (w1 u)) (k + rm2.cells) (n + rm2.slots) p1 lv st) (hst : stk = As.reverse ++ st) : wv_ G X ws k n pc lv stk := by
  obtain ⟨p9, l, e, R, s, m, args, below, meth, c, Q, A, nL⟩ := X
  intro H locs ls hP hD hS hl
  rw [wl_L] at hP hD
  subst hp
  have hts := C.2.2.1
  have hK := C.2.2.2.2.1
  have hA := C.2.2.2.2.2.1
  have hAb := C.2.2.2.2.2.2.2.2.1
  have hR' : R = rm := C.2.2.2.2.2.2.2.2.2.1
  have hg := C.2.2.2.2.2.2.2.2.2.2.2.1
  subst hR'
  have hsz : G.2.2 ≤ H.size := by
    have h1 := hAb s.heap.size (hA _ (Nat.le_refl _))
    exact Nat.le_trans h1 hS.1
  have hP0 := hsp.1 H hP
  have hD0 := hsp.2.1 A hD
  have hDb : va_D (fun x => G.2.2 ≤ x) w0 := hD0.weaken (fun _ x _ h => hAb x.1 h)
  have hgH : gk_ G s H := gk_kept hg (fun a h1 h2 => hS.2.1 a h1 (fun x => h2 (hAb a x)))
  have hF : ∀ x, va_A w0 H.size x → A x := fun x h => by
    rcases h with ⟨j, e9, h⟩ | h
    · exact hD0.2 j _ h
    · exact hA x (Nat.le_trans hS.1 h)
  have hpre : ∀ U : State, U.heap = H → s.WarmedH U.vm → pw_ G w0 H.size U := fun U hU hW9 => ⟨by rw [hU], by rw [hU]; exact hP0, va_K.moved hW9.alike hK, hDb, hsz, by rw [hU]; exact gk_warm hW9 hgH⟩
  subst hst
  have hM9 := hM l H.size
  have hpreV : ∀ U : State, U.heap = H → s.WarmedH U.vm → va_Pc As (pw_ G w0 H.size) As.toArray U := fun U hU hW9 => ⟨rfl, hpre U hU hW9⟩
  refine va_callv (va_runS (rest := st) ⟨C.1, C.2.1, C.2.2.2.2.2.2.1, C.2.2.2.1, hts⟩ hM9 ⟨callB_of nA hts (gT_in hca.2.1) rfl rfl rfl (hts _ hca.1) (hts _ m1) hca.2.2 hR, hts _ hcs⟩ ⟨(fun a U g mk x => by obtain ⟨q0, q1, qP, qK, qD, q2, q3⟩ := x; exact ⟨q0, q1, qP, va_K.moved (u := U) (U := U.calling g mk a) (Vm.Alike.refl U.vm) qK, qD, q2, gk_same (u := U) (U := U.calling g mk a) rfl q3⟩), hpreV⟩ rfl hn hl.1 rfl (lv_room hW) d hf) hS (fun x _ h => hF x h) hF (fun u t H1 locs1 ht hvm hw hB hz1 hk1 hS1 => ?_)
  obtain ⟨hP1, hK1, hD1⟩ := hB
  rw [ht] at hP1
  obtain ⟨hP2, hD2⟩ := hsp.2.2 A H H1 _ hP hD hk1 hF hP1 hD1
  exact kk u H1 locs1 ls (by rw [wl_L]; exact hP2) (by rw [wl_L]; exact hD2) hS1 hl
theorem xw_cSl (C : cx_ G X cc own rm ret nl) (p1 : Nat) (hp : pc + 3 = p1) (hsp : sw_ G.1 ws w0 j) {y : MethodName} {bytes : ByteArray} {maxL nA index : Nat} {ret2 : Option FieldType} {rm2 : Room} {As : List Value} {S : Type} {w1 : S → va_W} (hca : ca_ y bytes maxL ret2 nA) (hcs : Cond.static y ∈ gT_) (m1 : Cond.methodLink own index y ∈ gT_) (hn : As.length = nA) (hR : rm2.frames + 1 ≤ rm.frames ∧ 8 + (maxL + 11) + rm2.locals ≤ rm.locals) (hf : k + rm2.cells ≤ rm.cells ∧ n + rm2.slots ≤ rm.slots) (hW : (st.map fun v => v.category).sum ≤ 8) (d : decode cc pc = .ok (.invokestatic index, 3)) {av1 : Int} (hM : mw_ y bytes maxL ret2 rm2 G As w0 (fun A => qwl_ G A av1 w1)) (kk : ∀ u : S, wv_ G X (j (w1 u)) (k + rm2.cells) (n + rm2.slots) p1 lv (.long (iL av1) :: st)) (hst : stk = As.reverse ++ st) : wv_ G X ws k n pc lv stk := by
  obtain ⟨p9, l, e, R, s, m, args, below, meth, c, Q, A, nL⟩ := X
  intro H locs ls hP hD hS hl
  rw [wl_L] at hP hD
  subst hp
  have hts := C.2.2.1
  have hK := C.2.2.2.2.1
  have hA := C.2.2.2.2.2.1
  have hAb := C.2.2.2.2.2.2.2.2.1
  have hR' : R = rm := C.2.2.2.2.2.2.2.2.2.1
  have hg := C.2.2.2.2.2.2.2.2.2.2.2.1
  subst hR'
  have hsz : G.2.2 ≤ H.size := by
    have h1 := hAb s.heap.size (hA _ (Nat.le_refl _))
    exact Nat.le_trans h1 hS.1
  have hP0 := hsp.1 H hP
  have hD0 := hsp.2.1 A hD
  have hDb : va_D (fun x => G.2.2 ≤ x) w0 := hD0.weaken (fun _ x _ h => hAb x.1 h)
  have hgH : gk_ G s H := gk_kept hg (fun a h1 h2 => hS.2.1 a h1 (fun x => h2 (hAb a x)))
  have hF : ∀ x, va_A w0 H.size x → A x := fun x h => by
    rcases h with ⟨j, e9, h⟩ | h
    · exact hD0.2 j _ h
    · exact hA x (Nat.le_trans hS.1 h)
  have hpre : ∀ U : State, U.heap = H → s.WarmedH U.vm → pw_ G w0 H.size U := fun U hU hW9 => ⟨by rw [hU], by rw [hU]; exact hP0, va_K.moved hW9.alike hK, hDb, hsz, by rw [hU]; exact gk_warm hW9 hgH⟩
  subst hst
  have hM9 := hM l H.size
  have hpreV : ∀ U : State, U.heap = H → s.WarmedH U.vm → va_Pc As (pw_ G w0 H.size) As.toArray U := fun U hU hW9 => ⟨rfl, hpre U hU hW9⟩
  refine va_calll (va_runS (rest := st) ⟨C.1, C.2.1, C.2.2.2.2.2.2.1, C.2.2.2.1, hts⟩ hM9 ⟨callB_of nA hts (gT_in hca.2.1) rfl rfl rfl (hts _ hca.1) (hts _ m1) hca.2.2 hR, hts _ hcs⟩ ⟨(fun a U g mk x => by obtain ⟨q0, q1, qP, qK, qD, q2, q3⟩ := x; exact ⟨q0, q1, qP, va_K.moved (u := U) (U := U.calling g mk a) (Vm.Alike.refl U.vm) qK, qD, q2, gk_same (u := U) (U := U.calling g mk a) rfl q3⟩), hpreV⟩ rfl hn hl.1 rfl (lv_room hW) d hf) hS (fun x _ h => hF x h) hF (fun r9 u t H1 locs1 ht hvm hw hB hz1 hk1 hS1 => ?_)
  obtain ⟨hP1, hK1, hD1⟩ := hB
  rw [ht] at hP1
  rw [hw]
  obtain ⟨hP2, hD2⟩ := hsp.2.2 A H H1 _ hP hD hk1 hF hP1 hD1
  exact kk u H1 locs1 ls (by rw [wl_L]; exact hP2) (by rw [wl_L]; exact hD2) hS1 hl
theorem xw_cIv (C : cx_ G X cc own rm ret nl) (p1 : Nat) (hp : pc + 3 = p1) (hsp : sw_ G.1 ws w0 j) {y : MethodName} {bytes : ByteArray} {maxL nA index : Nat} {rm2 : Room} {As : List Value} {S : Type} {w1 : S → va_W} {a : Nat} (hca : ca_ y bytes maxL none nA) (hin : y.name = "<init>" ∧ Cond.instanceMethod y ∈ gT_) (m1 : Cond.methodLink own index y ∈ gT_) (hn : As.length = nA) (hR : rm2.frames + 1 ≤ rm.frames ∧ 8 + (maxL + 11) + rm2.locals ≤ rm.locals) (hf : k + rm2.cells ≤ rm.cells ∧ n + rm2.slots ≤ rm.slots) (hW : (st.map fun v => v.category).sum ≤ 8) (d : decode cc pc = .ok (.invokespecial index, 3)) (hM : mw_ y bytes maxL none rm2 G (.ref a :: As) w0 (fun A => qwv_ G A w1)) (kk : ∀ u : S, wv_ G X (j (w1 u)) (k + rm2.cells) (n + rm2.slots) p1 lv st) (hst : stk = As.reverse ++ .ref a :: st) : wv_ G X ws k n pc lv stk := by
  obtain ⟨p9, l, e, R, s, m, args, below, meth, c, Q, A, nL⟩ := X
  intro H locs ls hP hD hS hl
  rw [wl_L] at hP hD
  subst hp
  have hts := C.2.2.1
  have hK := C.2.2.2.2.1
  have hA := C.2.2.2.2.2.1
  have hAb := C.2.2.2.2.2.2.2.2.1
  have hR' : R = rm := C.2.2.2.2.2.2.2.2.2.1
  have hg := C.2.2.2.2.2.2.2.2.2.2.2.1
  subst hR'
  have hsz : G.2.2 ≤ H.size := by
    have h1 := hAb s.heap.size (hA _ (Nat.le_refl _))
    exact Nat.le_trans h1 hS.1
  have hP0 := hsp.1 H hP
  have hD0 := hsp.2.1 A hD
  have hDb : va_D (fun x => G.2.2 ≤ x) w0 := hD0.weaken (fun _ x _ h => hAb x.1 h)
  have hgH : gk_ G s H := gk_kept hg (fun a h1 h2 => hS.2.1 a h1 (fun x => h2 (hAb a x)))
  have hF : ∀ x, va_A w0 H.size x → A x := fun x h => by
    rcases h with ⟨j, e9, h⟩ | h
    · exact hD0.2 j _ h
    · exact hA x (Nat.le_trans hS.1 h)
  have hpre : ∀ U : State, U.heap = H → s.WarmedH U.vm → pw_ G w0 H.size U := fun U hU hW9 => ⟨by rw [hU], by rw [hU]; exact hP0, va_K.moved hW9.alike hK, hDb, hsz, by rw [hU]; exact gk_warm hW9 hgH⟩
  subst hst
  have hM9 := hM l H.size
  have hpreV : ∀ U : State, U.heap = H → s.WarmedH U.vm → va_Pc (.ref a :: As) (pw_ G w0 H.size) (Value.ref a :: As).toArray U := fun U hU hW9 => ⟨rfl, hpre U hU hW9⟩
  refine va_callv (va_runI (As := As) (rest := st) ⟨C.1, C.2.1, C.2.2.2.2.2.2.1, C.2.2.2.1, hts⟩ hM9 ⟨callB_of nA hts (gT_in hca.2.1) rfl rfl rfl (hts _ hca.1) (hts _ m1) hca.2.2 hR, hin.1, hts _ hin.2⟩ ⟨(fun a U g mk x => by obtain ⟨q0, q1, qP, qK, qD, q2, q3⟩ := x; exact ⟨q0, q1, qP, va_K.moved (u := U) (U := U.calling g mk a) (Vm.Alike.refl U.vm) qK, qD, q2, gk_same (u := U) (U := U.calling g mk a) rfl q3⟩), hpreV⟩ rfl hn hl.1 rfl (lv_room hW) d hf) hS (fun x _ h => hF x h) hF (fun u t H1 locs1 ht hvm hw hB hz1 hk1 hS1 => ?_)
  obtain ⟨hP1, hK1, hD1⟩ := hB
  rw [ht] at hP1
  obtain ⟨hP2, hD2⟩ := hsp.2.2 A H H1 _ hP hD hk1 hF hP1 hD1
  exact kk u H1 locs1 ls (by rw [wl_L]; exact hP2) (by rw [wl_L]; exact hD2) hS1 hl
theorem xw_cOi (C : cx_ G X cc own rm ret nl) (p1 : Nat) (hp : pc + 3 = p1) (hsp : sw_ G.1 ws w0 j) {y : MethodName} {bytes : ByteArray} {maxL nA index : Nat} {ret2 : Option FieldType} {rm2 : Room} {As : List Value} {S : Type} {w1 : S → va_W} {ci i0 a : Nat} {fs : List Value} {qc : vw_C} (hi : ws[i0]? = some (a, .inr (ci, fs))) (hc : vwCl[ci]? = some qc) {x : MethodName} {bytes0 : ByteArray} {maxL0 : Nat} {ret0 : Option FieldType} (hcax : ca_ x bytes0 maxL0 ret0 nA) (hcu : cu_ x) (hca : ca_ y bytes maxL ret2 nA) (hse : Cond.selects qc.1 x y ∈ gT_) (hiy : Cond.instanceMethod y ∈ gT_) (m1 : Cond.methodLink own index x ∈ gT_) (hn : As.length = nA) (hR : rm2.frames + 1 ≤ rm.frames ∧ 8 + (maxL + 11) + rm2.locals ≤ rm.locals) (hf : k + rm2.cells ≤ rm.cells ∧ n + rm2.slots ≤ rm.slots) (hW : (st.map fun v => v.category).sum ≤ 8) (d : decode cc pc = .ok (.invokevirtual index, 3)) {av1 : Int} (hM : mw_ y bytes maxL ret2 rm2 G (.ref a :: As) w0 (fun A => qwi_ G A av1 w1)) (kk : ∀ u : S, wv_ G X (j (w1 u)) (k + rm2.cells) (n + rm2.slots) p1 lv (.int (iI av1) :: st)) (hst : stk = As.reverse ++ .ref a :: st) : wv_ G X ws k n pc lv stk := by
  obtain ⟨p9, l, e, R, s, m, args, below, meth, c, Q, A, nL⟩ := X
  intro H locs ls hP hD hS hl
  rw [wl_L] at hP hD
  subst hp
  have hts := C.2.2.1
  have hK := C.2.2.2.2.1
  have hA := C.2.2.2.2.2.1
  have hAb := C.2.2.2.2.2.2.2.2.1
  have hR' : R = rm := C.2.2.2.2.2.2.2.2.2.1
  have hg := C.2.2.2.2.2.2.2.2.2.2.2.1
  subst hR'
  have hsz : G.2.2 ≤ H.size := by
    have h1 := hAb s.heap.size (hA _ (Nat.le_refl _))
    exact Nat.le_trans h1 hS.1
  have hP0 := hsp.1 H hP
  have hD0 := hsp.2.1 A hD
  have hDb : va_D (fun x => G.2.2 ≤ x) w0 := hD0.weaken (fun _ x _ h => hAb x.1 h)
  have hgH : gk_ G s H := gk_kept hg (fun a h1 h2 => hS.2.1 a h1 (fun x => h2 (hAb a x)))
  have hF : ∀ x, va_A w0 H.size x → A x := fun x h => by
    rcases h with ⟨j, e9, h⟩ | h
    · exact hD0.2 j _ h
    · exact hA x (Nat.le_trans hS.1 h)
  have hpre : ∀ U : State, U.heap = H → s.WarmedH U.vm → pw_ G w0 H.size U := fun U hU hW9 => ⟨by rw [hU], by rw [hU]; exact hP0, va_K.moved hW9.alike hK, hDb, hsz, by rw [hU]; exact gk_warm hW9 hgH⟩
  subst hst
  have hM9 := hM l H.size
  have hpreV : ∀ U : State, U.heap = H → s.WarmedH U.vm → va_Pc (.ref a :: As) (pw_ G w0 H.size) (Value.ref a :: As).toArray U := fun U hU hW9 => ⟨rfl, hpre U hU hW9⟩
  refine va_calli (va_runU (C := qc.1) (owner := x.cls) (rest := st) ⟨C.1, C.2.1, C.2.2.2.2.2.2.1, C.2.2.2.1, hts⟩ hM9 ⟨⟨rfl, rfl, hR.1, hR.2, pay_in hts (gT_in hca.2.1), List.mem_cons_self⟩, hts _ hca.2.1, hts _ hca.1, ⟨hcax.2.2.1, hcax.2.2.2.1⟩, (fun sig h9 => by have h2 := hcax.2.2.2.2; rw [h9] at h2; exact (Option.some.inj h2).symm), hts _ m1, hts _ hcu.1, va_Decl.of (hts _ hcu.2.1) (hts _ hcax.2.1), hts _ hse, hts _ hiy⟩ ⟨(fun a U g mk x => by obtain ⟨q0, q1, qP, qK, qD, q2, q3⟩ := x; exact ⟨q0, q1, qP, va_K.moved (u := U) (U := U.calling g mk a) (Vm.Alike.refl U.vm) qK, qD, q2, gk_same (u := U) (U := U.calling g mk a) rfl q3⟩), va_recv hK hP hc hi, hpreV⟩ rfl hn hl.1 rfl (lv_room hW) d hf) hS (fun x _ h => hF x h) hF (fun r9 u t H1 locs1 ht hvm hw hB hz1 hk1 hS1 => ?_)
  obtain ⟨hP1, hK1, hD1⟩ := hB
  rw [ht] at hP1
  rw [hw]
  obtain ⟨hP2, hD2⟩ := hsp.2.2 A H H1 _ hP hD hk1 hF hP1 hD1
  exact kk u H1 locs1 ls (by rw [wl_L]; exact hP2) (by rw [wl_L]; exact hD2) hS1 hl
theorem xw_null (C : cx_ G X cc own rm ret nl) (p1 : Nat) (hp : pc + 1 = p1) (d : decode cc pc = .ok (.aconst_null, 1)) (h : wv_ G X ws k n p1 lv (.null :: st)) : wv_ G X ws k n pc lv st := by
  obtain ⟨p9, l, e, R, s, m, args, below, meth, c, Q, A, nL⟩ := X
  intro H locs ls hP hD hS hl
  subst hp
  exact lv_null C.1 C.2.1 d (h H locs ls hP hD hS hl)
theorem xw_clone (C : cx_ G X cc own rm ret nl) (p1 : Nat) (hp : pc + 3 = p1) (i0 : Nat) {index a n0 : Nat} {f : Nat → Int32} (hi : ws[i0]? = some (a, .inl (G.1.1 101, n0, .inl f))) (hfit : ∀ q : Nat, q < n0 → fits .byte (.int (f q)) = true) (hw : Cond.methodLink own index ⟨"[B", "clone", "()Ljava/lang/Object;"⟩ ∈ gT_ ∧ Cond.sameMethod "[B" "java/lang/Object" "clone" "()Ljava/lang/Object;" ∈ gT_ ∧ Cond.native ⟨"java/lang/Object", "clone", "()Ljava/lang/Object;"⟩ ∈ gT_ ∧ Cond.instanceMethod ⟨"java/lang/Object", "clone", "()Ljava/lang/Object;"⟩ ∈ gT_ ∧ Cond.selects "[B" ⟨"[B", "clone", "()Ljava/lang/Object;"⟩ ⟨"java/lang/Object", "clone", "()Ljava/lang/Object;"⟩ ∈ gT_) (hR : 1 ≤ rm.frames ∧ (st.map fun v => v.category).sum + 14 ≤ rm.locals) (hf : k + 1 ≤ rm.cells ∧ n + n0 ≤ rm.slots) (d : decode cc pc = .ok (.invokevirtual index, 3)) (kk : ∀ q, wv_ G X (ws ++ [(q, .inl (G.1.1 101, n0, .inl f))]) (k + 1) (n + n0) p1 lv (.ref q :: st)) : wv_ G X ws k n pc lv (.ref a :: st) := by
  obtain ⟨p9, l, e, R, s, m, args, below, meth, c, Q, A, nL⟩ := X
  intro H locs ls hP hD hS hl
  rw [wl_L] at hP hD
  subst hp
  have hR' : R = rm := C.2.2.2.2.2.2.2.2.2.1
  have hK := C.2.2.2.2.1
  have hg := C.2.2.2.2.2.2.2.2.2.2.2.1
  have hcl : s.vm.findClass "[B" = some (G.1.1 101) := (hK.2 1 _ rfl).2
  refine va_clone C.1 C.2.1 (C.2.2.2.2.2.2.1.trans hl.1.symm) C.2.2.2.1 (C.2.2.1 _ hw.1) (C.2.2.1 _ hw.2.1) (C.2.2.1 _ hw.2.2.1) (C.2.2.1 _ hw.2.2.2.1) (C.2.2.1 _ hw.2.2.2.2) hg.2.2.2.2.2.2.2.2.2 hK hP hD hS C.2.2.2.2.2.1 i0 1 hi rfl hcl (fun q v hv => ?_) (by rw [hR']; exact hR.1) (by rw [hR']; exact hR.2) (by rw [hR']; exact hf.1) (by rw [hR']; exact hf.2) d (fun q H1 hK1 hP1 hD1 hS1 => ?_)
  · rw [vp_cell_i] at hv
    have hlt := (Array.getElem?_eq_some_iff.mp hv).1
    rw [arrV_size] at hlt
    have e1 := arrV_read (G.1.1 101) (fun j : Nat => Value.int (f j)) hlt
    rw [e1] at hv
    obtain rfl := Option.some.inj hv
    exact hfit q hlt
  · exact kk q H1 locs ls (by rw [wl_L]; exact hP1) (by rw [wl_L]; exact hD1) hS1 hl
theorem xw_cast (C : cx_ G X cc own rm ret nl) (p1 : Nat) (hp : pc + 3 = p1) (i0 : Nat) {index a n0 : Nat} {f : Nat → Int32} (hi : ws[i0]? = some (a, .inl (G.1.1 101, n0, .inl f))) (hw : Cond.classLink own index "[B" ∈ gT_) (d : decode cc pc = .ok (.checkcast index, 3)) (h : wv_ G X ws k n p1 lv (.ref a :: st)) : wv_ G X ws k n pc lv (.ref a :: st) := by
  obtain ⟨p9, l, e, R, s, m, args, below, meth, c, Q, A, nL⟩ := X
  intro H locs ls hP hD hS hl
  subst hp
  have hK := C.2.2.2.2.1
  have hcl : s.vm.findClass "[B" = some (G.1.1 101) := (hK.2 1 _ rfl).2
  exact va_castA C.1 C.2.1 C.2.2.2.1 (C.2.2.1 _ hw) (by rw [wl_L] at hP; exact hP) i0 hi hcl d (h H locs ls hP hD hS hl)
theorem xw_alen (C : cx_ G X cc own rm ret nl) (p1 : Nat) (hp : pc + 1 = p1) (i0 : Nat) {a n0 : Nat} {f : Nat → Int32} (hi : ws[i0]? = some (a, .inl (G.1.1 101, n0, .inl f))) (d : decode cc pc = .ok (.arraylength, 1)) (h : wv_ G X ws k n p1 lv (.int (iI (n0 : Nat)) :: st)) : wv_ G X ws k n pc lv (.ref a :: st) := by
  obtain ⟨p9, l, e, R, s, m, args, below, meth, c, Q, A, nL⟩ := X
  intro H locs ls hP hD hS hl
  subst hp
  exact va_alen C.1 C.2.1 C.2.2.2.2.1 (by rw [wl_L] at hP; exact hP) i0 1 hi rfl (iI_nat _) d (h H locs ls hP hD hS hl)
theorem xw_copyb (C : cx_ G X cc own rm ret nl) (p1 : Nat) (hp : pc + 3 = p1) (i0 i1 : Nat) {index a0 a1 n0 n1 : Nat} {f g : Nat → Int32} {len : Nat} (h0 : ws[i0]? = some (a0, .inl (G.1.1 101, n0, .inl f))) (h1 : ws[i1]? = some (a1, .inl (G.1.1 101, n1, .inl g))) (hl0 : len ≤ n0) (hl1 : len ≤ n1) (hb : n0 < 1000) (hfit : ∀ q : Nat, q < len → fits .byte (.int (f q)) = true) (hw : Cond.methodLink own index arraycopyName ∈ gT_ ∧ Cond.native arraycopyName ∈ gT_ ∧ Cond.static arraycopyName ∈ gT_ ∧ Cond.initialized "java/lang/System" ∈ gT_) (hR : 1 ≤ rm.frames ∧ (st.map fun v => v.category).sum + (nativeFrameWords "java/lang/System" "arraycopy" 5 + 11) ≤ rm.locals) (d : decode cc pc = .ok (.invokestatic index, 3)) (kk : wv_ G X (ws.set i1 (a1, .inl (G.1.1 101, n1, .inl (fun q => if q < len then f q else g q)))) k n p1 lv st) : wv_ G X ws k n pc lv (.int (iI (len : Nat)) :: .int (iI 0) :: .ref a1 :: .int (iI 0) :: .ref a0 :: st) := by
  obtain ⟨p9, l, e, R, s, m, args, below, meth, c, Q, A, nL⟩ := X
  intro H locs ls hP hD hS hl
  rw [wl_L] at hP hD
  subst hp
  have hR' : R = rm := C.2.2.2.2.2.2.2.2.2.1
  have hK := C.2.2.2.2.1
  have z0 : ∀ {z : Int}, 0 ≤ z → z ≤ 2147483647 → ¬ iI z < 0 := fun {z} h1 h2 q => by
    have := (iI_lt (a := z) (b := 0) (by omega) (by decide)).mp q
    omega
  have c1 : (iI 0).toNatClampNeg = 0 := iI_clamp (by decide)
  have c3 : (iI (len : Nat)).toNatClampNeg = len := iI_clamp (by omega)
  refine va_copyi C.1 C.2.1 (C.2.2.2.2.2.2.1.trans hl.1.symm) C.2.2.2.1 (C.2.2.1 _ hw.1) (C.2.2.1 _ hw.2.1) (C.2.2.1 _ hw.2.2.1) (C.2.2.1 _ hw.2.2.2) hK hP hD hS i0 i1 1 1 h0 h1 rfl rfl rfl (z0 (by decide) (by decide)) (z0 (by decide) (by decide)) (z0 (by omega) (by omega)) (by rw [c1, c3]; omega) (by rw [c1, c3]; omega) (fun q hq => ?_) (by rw [hR']; exact hR.1) (by rw [hR']; exact hR.2) d (fun H1 locs1 hP1 hD1 hS1 => ?_)
  · rw [c3] at hq
    rw [c1, Nat.zero_add]
    exact hfit q hq
  · have e1 : va_cpy f g (iI 0).toNatClampNeg (iI 0).toNatClampNeg (iI (len : Nat)).toNatClampNeg = fun q => if q < len then f q else g q := by
      funext q
      rw [c1, c3]
      unfold va_cpy
      by_cases hq : q < len
      · rw [if_pos ⟨Nat.zero_le _, by omega⟩, if_pos hq]
        congr 1
        omega
      · rw [if_neg (by omega), if_neg hq]
    rw [e1] at hP1 hD1
    exact kk H1 locs1 ls (by rw [wl_L]; exact hP1) (by rw [wl_L]; exact hD1) hS1 hl
theorem xw_ext (i0 : Nat) {a n0 : Nat} {c0 : ClassId} {f g : Nat → Int32} (hi : ws[i0]? = some (a, .inl (c0, n0, .inl f))) (hfg : ∀ j, j < n0 → f j = g j) (h : wv_ G X (ws.set i0 (a, .inl (c0, n0, .inl g))) k n pc lv st) : wv_ G X ws k n pc lv st := by
  obtain ⟨p, l, e9, R, s, m, args, below, meth, c, Q, A, nL⟩ := X
  intro H locs ls hP hD hS hl
  rw [wl_L] at hP hD
  have he : vp_cell c0 (n0, .inl f) = vp_cell c0 (n0, .inl g) := by
    rw [vp_cell_i, vp_cell_i]
    unfold arrV
    rw [show (fun j : Fin n0 => Value.int (f j.val)) = fun j : Fin n0 => Value.int (g j.val) from funext fun j => by rw [hfg j.val j.isLt]]
  refine h H locs ls (by
    rw [wl_L]
    intro k9 x hx
    by_cases hk : k9 = i0
    · subst hk
      rw [List.getElem?_set_self (List.getElem?_eq_some_iff.mp hi).1] at hx
      obtain rfl := Option.some.inj hx
      have h1 := hP k9 _ hi
      show H[a]? = some (vp_cell _ _)
      rw [← he]
      exact h1
    · rw [List.getElem?_set_ne (Ne.symm hk)] at hx
      exact hP k9 x hx) (by rw [wl_L]; exact hD.set hi) hS hl
end XW
