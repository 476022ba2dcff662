/-! constructors: worlds as lists (written by wip/gen/rows6.py) -/
def aL_ (ws : va_W) : Nat → Nat := fun k => (ws.getD k (0, .inr (0, []))).1
def cL_ (ws : va_W) : Nat → (Int → Int) → va_E := fun k _ => (ws.getD k (0, .inr (0, []))).2
theorem wl_L (ws : va_W) (μ : mu_T) : wl_ ws.length (aL_ ws) (cL_ ws) μ = ws := by
  apply List.ext_getElem?
  intro i
  by_cases h : i < ws.length
  · rw [wl_get h, List.getElem?_eq_getElem h]
    unfold aL_ cL_
    rw [List.getD_eq_getElem?_getD, List.getElem?_eq_getElem h]
    rfl
  · rw [List.getElem?_eq_none (by unfold wl_; rw [List.length_map, List.length_range]; omega), List.getElem?_eq_none (by omega)]
abbrev mz_ : mu_T := fun _ _ => 0
abbrev wv_ (G : gp_) (X : ct_) (ws : va_W) (k n pc : Nat) (lv : List (Nat × Value)) (st : List Value) : Prop := wx_ G X ws.length (aL_ ws) (cL_ ws) mz_ k n pc lv st
abbrev qc_ {S : Type} (G : gp_) (A : Nat → Prop) (w : S → va_W) : Array Value → State → Outcome → State → Prop := va_Qv (fun (_ : S) => True) (fun u t => va_P G.1 vwCl (w u) t.heap ∧ va_K G.1 vwCl (tys_ G.1) t ∧ va_D A (w u)) A
/-- what a constructor (or a static method over one cell) does with its one cell: new cells come -/
def mc_ (y : MethodName) (bytes : ByteArray) (maxL : Nat) (rm : Room) (G : gp_) (As : List Value) (e : va_E) {S : Type} (w1 : Nat → S → va_W) : Prop := ∀ (l : Launch) (q sz : Nat), Met l y (Cond.code y bytes maxL none :: gT_) rm (va_Pc (.ref q :: As) (pr_ G [(q, e)].length (aL_ [(q, e)]) (cL_ [(q, e)]) mz_ sz)) (qc_ G (va_A [(q, e)] sz) (w1 q)) rm.cells rm.slots (va_A [(q, e)] sz)
def nI_ (X : ct_) : Prop := match X with
  | (_, _, _, _, _, _, _, _, meth, _, _, _, _) => meth.name = "<init>"
theorem mc_in {y : MethodName} {bytes : ByteArray} {maxL : Nat} {rm : Room} {G : gp_} {As : List Value} {e : va_E} {S : Type} {w1 : Nat → S → va_W} {own : String} (hy : plainName y.cls = true) (hown : y.cls = own) (hn : ∀ q, (lg_sl (.ref q :: As)).length ≤ maxL) (body : ∀ (X : ct_) (q : Nat), cx_ G X bytes own rm none maxL → (y.name = "<init>" → nI_ X) → eg_ X rm (fun A => qc_ G A (w1 q)) → wv_ G X [(q, e)] 0 0 0 (lv_args 0 (.ref q :: As)) []) : mc_ y bytes maxL rm G As e w1 := by
  intro l q sz
  refine Met.ofW (cc := bytes) (maxL := maxL) (ret := none) hy rfl ?_
  intro p9 e9 s m args below meth c s₁ B hml hv
  obtain ⟨rfl, hsz, hP, hK, hD0, hbs, hg⟩ := hv
  subst hsz
  have hts := atoms_spec (ws := Cond.code y bytes maxL none :: gT_) B.pre
  have hfc : s.vm.findClass y.cls = some m.cls := findClass_of_methodNamed B.named
  rw [lg_entry_eq]
  have hl := lv_entry (.ref q :: As) (hn q)
  have hD1 : va_D (fun q => G.2.2 ≤ q) [(q, e)] := by rw [wl_L] at hD0; exact hD0
  have hAb : ∀ x, va_A [(q, e)] s.heap.size x → G.2.2 ≤ x := fun x h => by
    rcases h with ⟨k, e, h⟩ | h
    · exact hD1.2 k _ h
    · exact Nat.le_trans hbs h
  exact body (p9, l, e9, (headSpec (Cond.code y bytes maxL none :: gT_) rm).room, s, m, (.ref q :: As).toArray, below, meth, c, _, va_A [(q, e)] s.heap.size, maxL) q
    ⟨B.exec, B.bytes, fun w hw => hts w (List.mem_cons_of_mem _ hw), hown ▸ hfc, hK, fun q h => Or.inr h, hml, B.notSynchronized, hAb, rfl, B.returns, hg, rfl⟩ (fun hi => (name_of_methodNamed B.named B.method).1.trans hi) rfl s.heap [] _ hP (by rw [wl_L]; exact hD1.self (sz := s.heap.size)) va_S.rf hl
/-- behind a call: the callee's cell, at the end of the list, gives way to its new world -/
theorem wj_ {D : va_G} {cl : List vw_C} {A : Nat → Prop} {ws w1 : va_W} {q : Nat} {e : va_E} {H H1 : Heap} (hP : va_P D cl (ws ++ [(q, e)]) H) (hD : va_D A (ws ++ [(q, e)])) (hk : ∀ x : Nat, x < H.size → ¬ va_A [(q, e)] H.size x → H1[x]? = H[x]?) (hF : ∀ x, va_A [(q, e)] H.size x → A x) (hP1 : va_P D cl w1 H1) (hD1 : va_D (va_A [(q, e)] H.size) w1) : va_P D cl (ws ++ w1) H1 ∧ va_D A (ws ++ w1) := by
  have hl : ∀ (k : Nat) (x : Nat × va_E), ws[k]? = some x → (ws ++ [(q, e)])[k]? = some x := fun k x hx => by
    rw [List.getElem?_append_left (List.getElem?_eq_some_iff.mp hx).1]
    exact hx
  have hq : (ws ++ [(q, e)])[ws.length]? = some (q, e) := by rw [List.getElem?_append_right (Nat.le_refl _), Nat.sub_self]; rfl
  have hP0 : va_P D cl ws H := fun k x hx => hP k x (hl k x hx)
  have hno : ∀ (k : Nat) (x : Nat × va_E), ws[k]? = some x → ¬ va_A [(q, e)] H.size x.1 := fun k x hx hz => by
    rcases hz with ⟨j, e8, hj⟩ | hz
    · have hj0 : j = 0 := by
        rcases Nat.eq_zero_or_pos j with z | z
        · exact z
        · rw [List.getElem?_eq_none (by show 1 ≤ j; omega)] at hj; cases hj
      subst hj0
      have hqe : x.1 = q := (Prod.mk.inj (Option.some.inj hj)).1.symm
      have := hD.1 k ws.length _ _ (hl k x hx) hq hqe
      have hlt := (List.getElem?_eq_some_iff.mp hx).1
      omega
    · have := (hP0 k x hx).lt
      omega
  refine ⟨(hP0.kept (fun k x hx => hk x.1 ((hP0 k x hx).lt) (hno k x hx))).app hP1, va_D.app ?_ (hD1.weaken (fun _ x _ h => hF x.1 h)) (fun i j x y hx hy hxy => hno i x hx (by rw [hxy]; exact hD1.2 j y hy))⟩
  exact ⟨fun i j x y hx hy hxy => hD.1 i j x y (hl i x hx) (hl j y hy) hxy, fun k x hx => hD.2 k x (hl k x hx)⟩
/-- behind a call over one cell of the list: the cell is as the callee left it -/
theorem wjs_ {D : va_G} {cl : List vw_C} {A : Nat → Prop} {ws : va_W} {i a : Nat} {e e1 : va_E} {H H1 : Heap} (hi : ws[i]? = some (a, e)) (hP : va_P D cl ws H) (hD : va_D A ws) (hk : ∀ x : Nat, x < H.size → ¬ va_A [(a, e)] H.size x → H1[x]? = H[x]?) (hP1 : va_P D cl [(a, e1)] H1) : va_P D cl (ws.set i (a, e1)) H1 ∧ va_D A (ws.set i (a, e1)) := by
  refine ⟨fun k x hx => ?_, hD.set hi⟩
  by_cases hki : k = i
  · subst hki
    rw [List.getElem?_set_self (List.getElem?_eq_some_iff.mp hi).1] at hx
    obtain rfl := Option.some.inj hx
    exact hP1 0 _ rfl
  · rw [List.getElem?_set_ne (Ne.symm hki)] at hx
    refine (hP k x hx).kept (hk x.1 ((hP k x hx).lt) (fun hz => ?_))
    rcases hz with ⟨j, e8, hj⟩ | hz
    · have hj0 : j = 0 := by
        rcases Nat.eq_zero_or_pos j with z | z
        · exact z
        · rw [List.getElem?_eq_none (by show 1 ≤ j; omega)] at hj; cases hj
      subst hj0
      have hqe : x.1 = a := (Prod.mk.inj (Option.some.inj hj)).1.symm
      exact hki (hD.1 k i _ _ hx hi hqe)
    · have := (hP k x hx).lt
      omega
def fr_ (n : Nat) (v : Int) : Int → Int := fun x => if 0 ≤ x ∧ x < n then v else 0
def br_ (n : Int) : Int → Int := fun x => if x = -1 then n else 0
section XC
variable {G : gp_} {X : ct_} {ws : va_W} {k n pc : Nat} {lv lv1 : List (Nat × Value)} {st stk : List Value} {cc : ByteArray} {own : String} {rm : Room} {ret : Option FieldType} {nl : Nat}
theorem xx_obj {N : Nat} {ad : Nat → Nat} {ce : Nat → (Int → Int) → va_E} {μ : mu_T} (C : cx_ G X cc own rm ret nl) (p1 : Nat) (hp : pc + 3 = p1) {index a : Nat} (hw : Cond.methodLink own index Lib.objectInit ∈ gT_ ∧ Cond.instanceMethod Lib.objectInit ∈ gT_ ∧ Cond.code Lib.objectInit ⟨#[0xb1]⟩ 1 none ∈ gT_) (hR : 1 ≤ rm.frames ∧ (st.map fun v => v.category).sum + 12 ≤ rm.locals) (d : decode cc pc = .ok (.invokespecial index, 3)) (h : wx_ G X N ad ce μ k n p1 lv st) : wx_ G X N ad ce μ k n pc lv (.ref a :: st) := by
  obtain ⟨p, l, e9, R, s, m, args, below, meth, c, Q, A, nL⟩ := X
  intro H locs ls hP hD hS hl
  subst hp
  have hR' : R = rm := C.2.2.2.2.2.2.2.2.2.1
  refine W.objInit C.1 C.2.1 C.2.2.2.1 (C.2.2.1 _ hw.1) (C.2.2.1 _ hw.2.1) (C.2.2.1 _ hw.2.2) rfl (hl.1.trans C.2.2.2.2.2.2.1.symm) rfl d (by rw [hR']; exact hR.1) (by rw [hR']; show 2 * 0 + _ + 12 ≤ _; have := hR.2; omega) ?_
  exact h H locs ls hP hD hS hl
theorem xv_new (C : cx_ G X cc own rm ret nl) (p1 : Nat) (hp : pc + 3 = p1) {ci : Nat} {Cn : String} {T : u_T} {NF index : Nat} {fs : List Value} (hin : ∀ w ∈ u_ws Cn T NF, w ∈ gT_) (tyf : Nat → FieldType) (hty : ∀ k, k < NF → parseFieldDescriptor (T k).2.2.1 = some (tyf k)) (hc : vwCl[ci]? = some (Cn, T, NF)) (hfs : ∀ j, j < NF → defaultValue (tyf j) = vp_V fs j) (hw : Cond.classLink own index Cn ∈ gT_ ∧ Cond.instantiable Cn NF ∈ gT_ ∧ Cond.initialized Cn ∈ gT_) (hb : k + 1 ≤ rm.cells ∧ n + NF ≤ rm.slots) (d : decode cc pc = .ok (.new index, 3)) (kk : ∀ q, wv_ G X (ws ++ [(q, .inr (ci, fs))]) (k + 1) (n + NF) p1 lv (.ref q :: st)) : wv_ G X ws k n pc lv st := by
  obtain ⟨p, l, e9, R, s, m, args, below, meth, c, Q, A, nL⟩ := X
  intro H locs ls hP hD hS hl
  rw [wl_L] at hP hD
  subst hp
  have hR' : R = rm := C.2.2.2.2.2.2.2.2.2.1
  have hK := C.2.2.2.2.1
  refine va_new C.1 C.2.1 C.2.2.1 hin tyf hty C.2.2.2.1 (C.2.2.1 _ hw.1) (C.2.2.1 _ hw.2.1) (C.2.2.1 _ hw.2.2) hK hP hD hS C.2.2.2.2.2.1 hc hfs (by rw [hR']; exact hb.1) (by rw [hR']; exact hb.2) d (fun q H1 hP1 hD1 hS1 => ?_)
  exact kk q H1 locs ls (by rw [wl_L]; exact hP1) (by rw [wl_L]; exact hD1) hS1 hl
theorem xv_newi (C : cx_ G X cc own rm ret nl) (p1 : Nat) (hp : pc + 2 = p1) {z : Int} (h0 : 0 ≤ z) (h1 : z ≤ 10000) (harr : Cond.arrayClass .int ∈ gT_) (hb : k + 1 ≤ rm.cells ∧ n + z.toNat ≤ rm.slots) (d : decode cc pc = .ok (.newarray .int, 2)) (kk : ∀ q, wv_ G X (ws ++ [(q, .inl (G.1.1 100, z.toNat, .inl (fun _ => iI 0)))]) (k + 1) (n + z.toNat) p1 lv (.ref q :: st)) : wv_ G X ws k n pc lv (.int (iI z) :: st) := by
  obtain ⟨p, l, e9, R, s, m, args, below, meth, c, Q, A, nL⟩ := X
  intro H locs ls hP hD hS hl
  rw [wl_L] at hP hD
  subst hp
  have hR' : R = rm := C.2.2.2.2.2.2.2.2.2.1
  have hK := C.2.2.2.2.1
  refine va_newa (atype := .int) (ty := .int) C.1 C.2.1 (C.2.2.1 _ harr) rfl hK hP hD hS C.2.2.2.2.2.1 (N' := z.toNat) (a0 := (z.toNat, .inl (fun _ => iI 0))) (fun cA => rfl) ?_ (iI_clamp (by omega)) (by show z.toNat * 4 ≤ _; omega) (by rw [hR']; exact hb.1) (by rw [hR']; exact hb.2) d (fun q cA H1 hK1 hP1 hD1 hS1 => ?_)
  · intro h
    have := (iI_lt (a := z) (b := 0) (by omega) (by decide)).mp h
    omega
  · have e1 : s.vm.findClass ("[" ++ (FieldType.int).toString) = some (G.1.1 100) := (hK.2 0 _ rfl).2
    have e2 : s.vm.findClass ("[" ++ (FieldType.int).toString) = some cA := (hK1.2 5 _ rfl).2
    have e3 : cA = G.1.1 100 := Option.some.inj (e2.symm.trans e1)
    subst e3
    exact kk q H1 locs ls (by rw [wl_L]; exact hP1) (by rw [wl_L]; exact hD1) hS1 hl
theorem xv_newb (C : cx_ G X cc own rm ret nl) (p1 : Nat) (hp : pc + 2 = p1) {z : Int} (h0 : 0 ≤ z) (h1 : z ≤ 10000) (harr : Cond.arrayClass .byte ∈ gT_) (hb : k + 1 ≤ rm.cells ∧ n + z.toNat ≤ rm.slots) (d : decode cc pc = .ok (.newarray .byte, 2)) (kk : ∀ q, wv_ G X (ws ++ [(q, .inl (G.1.1 101, (br_ z (-1)).toNat, .inl (fun j => iI (br_ z (j : Nat)))))]) (k + 1) (n + z.toNat) p1 lv (.ref q :: st)) : wv_ G X ws k n pc lv (.int (iI z) :: st) := by
  obtain ⟨p, l, e9, R, s, m, args, below, meth, c, Q, A, nL⟩ := X
  intro H locs ls hP hD hS hl
  rw [wl_L] at hP hD
  subst hp
  have hR' : R = rm := C.2.2.2.2.2.2.2.2.2.1
  have hK := C.2.2.2.2.1
  have eb : (fun j : Nat => iI (br_ z (j : Int))) = fun _ => iI 0 := by
    funext j
    unfold br_
    rw [if_neg (by omega)]
  have ez : (br_ z (-1)) = z := if_pos rfl
  rw [eb, ez] at kk
  refine va_newa (atype := .byte) (ty := .byte) C.1 C.2.1 (C.2.2.1 _ harr) rfl hK hP hD hS C.2.2.2.2.2.1 (N' := z.toNat) (a0 := (z.toNat, .inl (fun _ => iI 0))) (fun cA => rfl) ?_ (iI_clamp (by omega)) (by show z.toNat * 1 ≤ _; omega) (by rw [hR']; exact hb.1) (by rw [hR']; exact hb.2) d (fun q cA H1 hK1 hP1 hD1 hS1 => ?_)
  · intro h
    have := (iI_lt (a := z) (b := 0) (by omega) (by decide)).mp h
    omega
  · have e1 : s.vm.findClass ("[" ++ (FieldType.byte).toString) = some (G.1.1 101) := (hK.2 1 _ rfl).2
    have e2 : s.vm.findClass ("[" ++ (FieldType.byte).toString) = some cA := (hK1.2 5 _ rfl).2
    have e3 : cA = G.1.1 101 := Option.some.inj (e2.symm.trans e1)
    subst e3
    exact kk q H1 locs ls (by rw [wl_L]; exact hP1) (by rw [wl_L]; exact hD1) hS1 hl
theorem xv_newq (C : cx_ G X cc own rm ret nl) (p1 : Nat) (hp : pc + 3 = p1) {z : Int} {Cn : String} {ti : Nat} {cid : ClassId} {index : Nat} (h0 : 0 ≤ z) (h1 : z ≤ 10000) (hti : (tys_ G.1)[ti]? = some (cid, .object Cn)) (hao : gk_ G (match X with | (_, _, _, _, s, _, _, _, _, _, _, _, _) => s) (match X with | (_, _, _, _, s, _, _, _, _, _, _, _, _) => s.heap) → va_AO Cn (match X with | (_, _, _, _, s, _, _, _, _, _, _, _, _) => s)) (hw : Cond.classLink own index Cn ∈ gT_) (hb : k + 1 ≤ rm.cells ∧ n + z.toNat ≤ rm.slots) (d : decode cc pc = .ok (.anewarray index, 3)) (kk : ∀ q, wv_ G X (ws ++ [(q, .inl (cid, z.toNat, .inr (.inr (.inr (.inr (fun _ => none))))))]) (k + 1) (n + z.toNat) p1 lv (.ref q :: st)) : wv_ G X ws k n pc lv (.int (iI z) :: st) := by
  obtain ⟨p, l, e9, R, s, m, args, below, meth, c, Q, A, nL⟩ := X
  intro H locs ls hP hD hS hl
  rw [wl_L] at hP hD
  subst hp
  have hR' : R = rm := C.2.2.2.2.2.2.2.2.2.1
  have hK := C.2.2.2.2.1
  refine va_newq (C := Cn) C.1 C.2.1 C.2.2.2.1 (C.2.2.1 _ hw) (hao C.2.2.2.2.2.2.2.2.2.2.2.1) hK hP hD hS C.2.2.2.2.2.1 (N' := z.toNat) ?_ (iI_clamp (by omega)) (by omega) (by rw [hR']; exact hb.1) (by rw [hR']; exact hb.2) d (fun q cA H1 hK1 hP1 hD1 hS1 => ?_)
  · intro h
    have := (iI_lt (a := z) (b := 0) (by omega) (by decide)).mp h
    omega
  · obtain ⟨kA1, comp1, -, -, -, e1⟩ := (hK.2 ti _ hti).2
    obtain ⟨kA2, comp2, -, -, -, e2⟩ := (hK1.2 5 _ rfl).2
    have e3 : cA = cid := Option.some.inj (e2.symm.trans e1)
    subst e3
    exact kk q H1 locs ls (by rw [wl_L]; exact hP1) (by rw [wl_L]; exact hD1) hS1 hl
theorem xv_put (C : cx_ G X cc own rm ret nl) (p1 : Nat) (hp : pc + 3 = p1) (q0 : Nat) {fs : List Value} {ci : Nat} {Cn : String} {T : u_T} {NF index fi a : Nat} {ty : FieldType} {v : Value} (he : ws[q0]? = some (a, .inr (ci, fs))) (hc : vwCl[ci]? = some (Cn, T, NF)) (hin : ∀ w ∈ u_ws Cn T NF, w ∈ gT_) (tyf : Nat → FieldType) (hty : ∀ k, k < NF → parseFieldDescriptor (T k).2.2.1 = some (tyf k)) (hnm : ∀ a, a < NF → ∀ b, b < NF → a ≠ b → (T a).2.1 ≠ (T b).2.1) (hk : fi < NF) (hl0 : fi < fs.length) (hT : (T fi).2.2.2 = false ∧ parseFieldDescriptor (T fi).2.2.1 = some ty) (hnar : narrow ty v = v) (hfit : fits ty v = true) (hlink : Cond.fieldLink own index (T fi).1 (T fi).2.1 (T fi).2.2.1 ∈ gT_) (d : decode cc pc = .ok (.putfield index, 3)) (kk : wv_ G X (ws.set q0 (a, .inr (ci, fs.set fi v))) k n p1 lv st) : wv_ G X ws k n pc lv (v :: .ref a :: st) := by
  obtain ⟨p, l, e9, R, s, m, args, below, meth, c, Q, A, nL⟩ := X
  intro H locs ls hP hD hS hl
  rw [wl_L] at hP hD
  subst hp
  have hR' : R = rm := C.2.2.2.2.2.2.2.2.2.1
  have hK := C.2.2.2.2.1
  refine va_put (C := Cn) (T := T) (N := NF) (ref := (T fi).1) (ty := ty) C.1 C.2.1 C.2.2.1 hin tyf hty hnm C.2.2.2.1 hK hP hD hS q0 he hc fi hk (C.2.2.1 _ hlink) (fun x h9 => h9) hT.1 hT.2 hnar hfit hl0 d (fun H1 locs1 hP1 hD1 hS1 => ?_)
  exact kk H1 locs1 ls (by rw [wl_L]; exact hP1) (by rw [wl_L]; exact hD1) hS1 hl
theorem xv_putF (C : cx_ G X cc own rm ret nl) (NI : nI_ X) (p1 : Nat) (hp : pc + 3 = p1) (q0 : Nat) {fs : List Value} {ci : Nat} {Cn : String} {T : u_T} {NF index fi a : Nat} {ty : FieldType} {v : Value} (he : ws[q0]? = some (a, .inr (ci, fs))) (hc : vwCl[ci]? = some (Cn, T, NF)) (hin : ∀ w ∈ u_ws Cn T NF, w ∈ gT_) (tyf : Nat → FieldType) (hty : ∀ k, k < NF → parseFieldDescriptor (T k).2.2.1 = some (tyf k)) (hnm : ∀ a, a < NF → ∀ b, b < NF → a ≠ b → (T a).2.1 ≠ (T b).2.1) (hk : fi < NF) (hl0 : fi < fs.length) (hT : (T fi).2.2.2 = true ∧ (T fi).1 = own ∧ parseFieldDescriptor (T fi).2.2.1 = some ty) (hnar : narrow ty v = v) (hfit : fits ty v = true) (hlink : Cond.fieldLink own index (T fi).1 (T fi).2.1 (T fi).2.2.1 ∈ gT_) (d : decode cc pc = .ok (.putfield index, 3)) (kk : wv_ G X (ws.set q0 (a, .inr (ci, fs.set fi v))) k n p1 lv st) : wv_ G X ws k n pc lv (v :: .ref a :: st) := by
  obtain ⟨p, l, e9, R, s, m, args, below, meth, c, Q, A, nL⟩ := X
  intro H locs ls hP hD hS hl
  rw [wl_L] at hP hD
  subst hp
  have hR' : R = rm := C.2.2.2.2.2.2.2.2.2.1
  have hK := C.2.2.2.2.1
  refine va_putF (C := Cn) (T := T) (N := NF) (ref := (T fi).1) (ty := ty) C.1 C.2.1 C.2.2.1 hin tyf hty hnm C.2.2.2.1 hK hP hD hS q0 he hc fi hk (C.2.2.1 _ hlink) (fun x h9 => h9) hT.1 NI hT.2.1 hT.2.2 hnar hfit hl0 d (fun H1 locs1 hP1 hD1 hS1 => ?_)
  exact kk H1 locs1 ls (by rw [wl_L]; exact hP1) (by rw [wl_L]; exact hD1) hS1 hl
theorem xv_put0F {M : va_W} (C : cx_ G X cc own rm ret nl) (NI : nI_ X) (p1 : Nat) (hp : pc + 3 = p1) {fs : List Value} {ci : Nat} {Cn : String} {T : u_T} {NF index fi a : Nat} {ty : FieldType} {v : Value} (hc : vwCl[ci]? = some (Cn, T, NF)) (hin : ∀ w ∈ u_ws Cn T NF, w ∈ gT_) (tyf : Nat → FieldType) (hty : ∀ k, k < NF → parseFieldDescriptor (T k).2.2.1 = some (tyf k)) (hnm : ∀ a, a < NF → ∀ b, b < NF → a ≠ b → (T a).2.1 ≠ (T b).2.1) (hk : fi < NF) (hl0 : fi < fs.length) (hT : (T fi).2.2.2 = true ∧ (T fi).1 = own ∧ parseFieldDescriptor (T fi).2.2.1 = some ty) (hnar : narrow ty v = v) (hfit : fits ty v = true) (hlink : Cond.fieldLink own index (T fi).1 (T fi).2.1 (T fi).2.2.1 ∈ gT_) (d : decode cc pc = .ok (.putfield index, 3)) (kk : wv_ G X ([(a, .inr (ci, fs.set fi v))] ++ M) k n p1 lv st) : wv_ G X ([(a, .inr (ci, fs))] ++ M) k n pc lv (v :: .ref a :: st) := by
  have e : ([(a, .inr (ci, fs.set fi v))] : va_W) ++ M = List.set ([(a, .inr (ci, fs))] ++ M) 0 (a, .inr (ci, fs.set fi v)) := rfl
  rw [e] at kk
  exact xv_putF (fs := fs) (a := a) C NI p1 hp 0 rfl hc hin tyf hty hnm hk hl0 hT hnar hfit hlink d kk
theorem xv_assoc {c0 M L : va_W} (h : wv_ G X (c0 ++ (M ++ L)) k n pc lv st) : wv_ G X ((c0 ++ M) ++ L) k n pc lv st := by
  rw [List.append_assoc]
  exact h
theorem xv_aast (C : cx_ G X cc own rm ret nl) (p1 : Nat) (hp : pc + 1 = p1) (q0 qk : Nat) {a v nA ci : Nat} {vs : List Value} {f : Nat → Option Nat} {i : Int} {T : u_T} {NF : Nat} (he : ws[q0]? = some (a, .inl (G.1.1 102, nA, .inr (.inr (.inr (.inr f)))))) (hv : ws[qk]? = some (v, .inr (ci, vs))) (hc : vwCl[ci]? = some ("UrnHeap$Heap", T, NF)) (h0 : 0 ≤ i) (h1 : i < nA) (h2 : nA < 10000) (d : decode cc pc = .ok (.aastore, 1)) (kk : wv_ G X (ws.set q0 (a, .inl (G.1.1 102, nA, .inr (.inr (.inr (.inr (va_up f i.toNat (some v)))))))) k n p1 lv st) : wv_ G X ws k n pc lv (.ref v :: .int (iI i) :: .ref a :: st) := by
  obtain ⟨p, l, e9, R, s, m, args, below, meth, c, Q, A, nL⟩ := X
  intro H locs ls hP hD hS hl
  rw [wl_L] at hP hD
  subst hp
  have hR' : R = rm := C.2.2.2.2.2.2.2.2.2.1
  have hK := C.2.2.2.2.1
  refine va_astq C.1 C.2.1 hK hP hD hS q0 2 qk ci he rfl hv hc (iI_in h0 h1 (by omega)) d (fun H1 locs1 hP1 hD1 hS1 => ?_)
  rw [iI_clamp (by omega)] at hP1 hD1
  exact kk H1 locs1 ls (by rw [wl_L]; exact hP1) (by rw [wl_L]; exact hD1) hS1 hl

theorem xv_ctor (C : cx_ G X cc own rm ret nl) (p1 : Nat) (hp : pc + 3 = p1) {y : MethodName} {bytes : ByteArray} {maxL nA index : Nat} {rm2 : Room} {As : List Value} {q : Nat} {e : va_E} {S : Type} {w1 : Nat → S → va_W} (hca : ca_ y bytes maxL none nA) (hin : y.name = "<init>" ∧ Cond.instanceMethod y ∈ gT_) (m1 : Cond.methodLink own index y ∈ gT_) (hn : As.length = nA) (hR : rm2.frames + 1 ≤ rm.frames ∧ 8 + (maxL + 11) + rm2.locals ≤ rm.locals) (hf : k + rm2.cells ≤ rm.cells ∧ n + rm2.slots ≤ rm.slots) (hW : (st.map fun v => v.category).sum ≤ 8) (d : decode cc pc = .ok (.invokespecial index, 3)) (hM : mc_ y bytes maxL rm2 G As e w1) (kk : ∀ u : S, wv_ G X (ws ++ w1 q u) (k + rm2.cells) (n + rm2.slots) p1 lv st) (hst : stk = As.reverse ++ .ref q :: st) : wv_ G X (ws ++ [(q, e)]) k n pc lv stk := by
  obtain ⟨p, l, e9, R, s, m, args, below, meth, c, Q, A, nL⟩ := X
  intro H locs ls hP hD hS hl
  rw [wl_L] at hP hD
  subst hp
  have hR' : R = rm := C.2.2.2.2.2.2.2.2.2.1
  have hK := C.2.2.2.2.1
  have hts := C.2.2.1
  have hA := C.2.2.2.2.2.1
  have hAb := C.2.2.2.2.2.2.2.2.1
  have hg := C.2.2.2.2.2.2.2.2.2.2.2.1
  subst hR'
  have hsz : G.2.2 ≤ H.size := by
    have h1 := hAb s.heap.size (hA _ (Nat.le_refl _))
    exact Nat.le_trans h1 hS.1
  have hgH : gk_ G s H := gk_kept hg (fun a h1 h2 => hS.2.1 a h1 (fun q => h2 (hAb a q)))
  subst hst
  have hq : (ws ++ [(q, e)])[ws.length]? = some (q, e) := by rw [List.getElem?_append_right (Nat.le_refl _), Nat.sub_self]; rfl
  have h10 : ∀ (k : Nat) (x : Nat × va_E), [(q, e)][k]? = some x → (ws ++ [(q, e)])[ws.length + k]? = some x := fun k x hx => by
    rw [List.getElem?_append_right (by omega), Nat.add_sub_cancel_left]
    exact hx
  have hPc : va_P G.1 vwCl [(q, e)] H := fun k x hx => hP _ x (h10 k x hx)
  have hDc : va_D A [(q, e)] := ⟨fun i j x y hx hy hxy => by have := hD.1 _ _ _ _ (h10 i x hx) (h10 j y hy) hxy; omega, fun k x hx => hD.2 _ x (h10 k x hx)⟩
  have hF : ∀ x, va_A [(q, e)] H.size x → A x := fun x h => by
    rcases h with ⟨j, e9, h⟩ | h
    · exact hDc.2 j _ h
    · exact hA x (Nat.le_trans hS.1 h)
  have hDb : va_D (fun x => G.2.2 ≤ x) [(q, e)] := hDc.weaken (fun _ x _ h => hAb x.1 h)
  have hpreV : ∀ U : State, U.heap = H → s.WarmedH U.vm → va_Pc (.ref q :: As) (pr_ G [(q, e)].length (aL_ [(q, e)]) (cL_ [(q, e)]) mz_ H.size) (Value.ref q :: As).toArray U := fun U hU hW9 => ⟨rfl, by rw [hU], by rw [hU, wl_L]; exact hPc, va_K.moved hW9.alike hK, by rw [wl_L]; exact hDb, hsz, by rw [hU]; exact gk_warm hW9 hgH⟩
  refine va_callv (va_runI (As := As) (rest := st) ⟨C.1, C.2.1, C.2.2.2.2.2.2.1, C.2.2.2.1, hts⟩ (hM l q H.size) ⟨callB_of nA hts (gT_in hca.2.1) rfl rfl rfl (hts _ hca.1) (hts _ m1) hca.2.2 hR, hin.1, hts _ hin.2⟩ ⟨(fun a U g mk x => by obtain ⟨q0, q1, qP, qK, qD, q2, q3⟩ := x; exact ⟨q0, q1, qP, va_K.moved (u := U) (U := U.calling g mk a) (Vm.Alike.refl U.vm) qK, qD, q2, gk_same (u := U) (U := U.calling g mk a) rfl q3⟩), hpreV⟩ rfl hn hl.1 rfl (lv_room hW) d hf) hS (fun x _ h => hF x h) hF (fun u t H1 locs1 ht hvm hw hB hz1 hk1 hS1 => ?_)
  obtain ⟨hP1, hK1, hD1⟩ := hB
  rw [ht] at hP1
  obtain ⟨hP2, hD2⟩ := wj_ hP hD hk1 hF hP1 hD1
  exact kk u H1 locs1 ls (by rw [wl_L]; exact hP2) (by rw [wl_L]; exact hD2) hS1 hl
theorem xv_ctorN (C : cx_ G X cc own rm ret nl) (p1 : Nat) (hp : pc + 3 = p1) {y : MethodName} {bytes : ByteArray} {maxL nA index index0 : Nat} {rm2 : Room} {As : List Value} {q : Nat} {e : va_E} {S : Type} {w1 : Nat → S → va_W} (hca : ca_ y bytes maxL none nA) (hin : y.name = "<init>" ∧ Cond.instanceMethod y ∈ gT_) (m1 : nwl_[index0]? = some (own, index, y)) (hn : As.length = nA) (hR : rm2.frames + 1 ≤ rm.frames ∧ 8 + (maxL + 11) + rm2.locals ≤ rm.locals) (hf : k + rm2.cells ≤ rm.cells ∧ n + rm2.slots ≤ rm.slots) (hW : (st.map fun v => v.category).sum ≤ 8) (d : decode cc pc = .ok (.invokespecial index, 3)) (hM : mc_ y bytes maxL rm2 G As e w1) (kk : ∀ u : S, wv_ G X (ws ++ w1 q u) (k + rm2.cells) (n + rm2.slots) p1 lv st) (hst : stk = As.reverse ++ .ref q :: st) : wv_ G X (ws ++ [(q, e)]) k n pc lv stk := by
  obtain ⟨p, l, e9, R, s, m, args, below, meth, c, Q, A, nL⟩ := X
  intro H locs ls hP hD hS hl
  rw [wl_L] at hP hD
  subst hp
  have hR' : R = rm := C.2.2.2.2.2.2.2.2.2.1
  have hK := C.2.2.2.2.1
  have hts := C.2.2.1
  have hA := C.2.2.2.2.2.1
  have hAb := C.2.2.2.2.2.2.2.2.1
  have hg := C.2.2.2.2.2.2.2.2.2.2.2.1
  subst hR'
  have hsz : G.2.2 ≤ H.size := by
    have h1 := hAb s.heap.size (hA _ (Nat.le_refl _))
    exact Nat.le_trans h1 hS.1
  have hgH : gk_ G s H := gk_kept hg (fun a h1 h2 => hS.2.1 a h1 (fun q => h2 (hAb a q)))
  subst hst
  have hq : (ws ++ [(q, e)])[ws.length]? = some (q, e) := by rw [List.getElem?_append_right (Nat.le_refl _), Nat.sub_self]; rfl
  have h10 : ∀ (k : Nat) (x : Nat × va_E), [(q, e)][k]? = some x → (ws ++ [(q, e)])[ws.length + k]? = some x := fun k x hx => by
    rw [List.getElem?_append_right (by omega), Nat.add_sub_cancel_left]
    exact hx
  have hPc : va_P G.1 vwCl [(q, e)] H := fun k x hx => hP _ x (h10 k x hx)
  have hDc : va_D A [(q, e)] := ⟨fun i j x y hx hy hxy => by have := hD.1 _ _ _ _ (h10 i x hx) (h10 j y hy) hxy; omega, fun k x hx => hD.2 _ x (h10 k x hx)⟩
  have hF : ∀ x, va_A [(q, e)] H.size x → A x := fun x h => by
    rcases h with ⟨j, e9, h⟩ | h
    · exact hDc.2 j _ h
    · exact hA x (Nat.le_trans hS.1 h)
  have hDb : va_D (fun x => G.2.2 ≤ x) [(q, e)] := hDc.weaken (fun _ x _ h => hAb x.1 h)
  have hpreV : ∀ U : State, U.heap = H → s.WarmedH U.vm → va_Pc (.ref q :: As) (pr_ G [(q, e)].length (aL_ [(q, e)]) (cL_ [(q, e)]) mz_ H.size) (Value.ref q :: As).toArray U := fun U hU hW9 => ⟨rfl, by rw [hU], by rw [hU, wl_L]; exact hPc, va_K.moved hW9.alike hK, by rw [wl_L]; exact hDb, hsz, by rw [hU]; exact gk_warm hW9 hgH⟩
  have hnw : va_Nw (.methodLinkNest own index y "UrnHeap") s := hg.2.2.2.2.1 _ (List.mem_of_getElem? m1)
  refine va_callv (va_runIN (As := As) (rest := st) ⟨C.1, C.2.1, C.2.2.2.2.2.2.1, C.2.2.2.1, hts⟩ (hM l q H.size) ⟨va_cnB nA hts (gT_in hca.2.1) rfl rfl rfl hnw (hts _ hca.1) hca.2.2 hR, hin.1, hts _ hin.2⟩ ⟨(fun a U g mk x => by obtain ⟨q0, q1, qP, qK, qD, q2, q3⟩ := x; exact ⟨q0, q1, qP, va_K.moved (u := U) (U := U.calling g mk a) (Vm.Alike.refl U.vm) qK, qD, q2, gk_same (u := U) (U := U.calling g mk a) rfl q3⟩), hpreV⟩ rfl hn hl.1 rfl (lv_room hW) d hf) hS (fun x _ h => hF x h) hF (fun u t H1 locs1 ht hvm hw hB hz1 hk1 hS1 => ?_)
  obtain ⟨hP1, hK1, hD1⟩ := hB
  rw [ht] at hP1
  obtain ⟨hP2, hD2⟩ := wj_ hP hD hk1 hF hP1 hD1
  exact kk u H1 locs1 ls (by rw [wl_L]; exact hP2) (by rw [wl_L]; exact hD2) hS1 hl
theorem xv_fill (C : cx_ G X cc own rm ret nl) (p1 : Nat) (hp : pc + 3 = p1) (i0 : Nat) {y : MethodName} {bytes : ByteArray} {maxL index a : Nat} {rm2 : Room} {v : Value} {e e1 : va_E} (hi : ws[i0]? = some (a, e)) (hca : ca_ y bytes maxL none 2) (hs : Cond.static y ∈ gT_) (m1 : Cond.methodLink own index y ∈ gT_) (hR : rm2.frames + 1 ≤ rm.frames ∧ 8 + (maxL + 11) + rm2.locals ≤ rm.locals) (hf : k + rm2.cells ≤ rm.cells ∧ n + rm2.slots ≤ rm.slots) (hW : (st.map fun v => v.category).sum ≤ 8) (d : decode cc pc = .ok (.invokestatic index, 3)) (hM : mc_ y bytes maxL rm2 G [v] e (fun q (_ : Unit) => [(q, e1)])) (kk : wv_ G X (ws.set i0 (a, e1)) (k + rm2.cells) (n + rm2.slots) p1 lv st) : wv_ G X ws k n pc lv (v :: .ref a :: st) := by
  obtain ⟨p, l, e9, R, s, m, args, below, meth, c, Q, A, nL⟩ := X
  intro H locs ls hP hD hS hl
  rw [wl_L] at hP hD
  subst hp
  have hR' : R = rm := C.2.2.2.2.2.2.2.2.2.1
  have hK := C.2.2.2.2.1
  have hts := C.2.2.1
  have hA := C.2.2.2.2.2.1
  have hAb := C.2.2.2.2.2.2.2.2.1
  have hg := C.2.2.2.2.2.2.2.2.2.2.2.1
  subst hR'
  have hsz : G.2.2 ≤ H.size := by
    have h1 := hAb s.heap.size (hA _ (Nat.le_refl _))
    exact Nat.le_trans h1 hS.1
  have hgH : gk_ G s H := gk_kept hg (fun a h1 h2 => hS.2.1 a h1 (fun q => h2 (hAb a q)))
  have h10 : ∀ (k : Nat) (x : Nat × va_E), [(a, e)][k]? = some x → ws[i0 + k]? = some x := fun k x hx => by
    have hk0 : k = 0 := by
      rcases Nat.eq_zero_or_pos k with z | z
      · exact z
      · rw [List.getElem?_eq_none (by show 1 ≤ k; omega)] at hx; cases hx
    subst hk0
    exact hi.trans hx
  have hPc : va_P G.1 vwCl [(a, e)] H := fun k x hx => hP _ x (h10 k x hx)
  have hDc : va_D A [(a, e)] := ⟨fun i j x y hx hy hxy => by have := hD.1 _ _ _ _ (h10 i x hx) (h10 j y hy) hxy; omega, fun k x hx => hD.2 _ x (h10 k x hx)⟩
  have hF : ∀ x, va_A [(a, e)] H.size x → A x := fun x h => by
    rcases h with ⟨j, e9, h⟩ | h
    · exact hDc.2 j _ h
    · exact hA x (Nat.le_trans hS.1 h)
  have hDb : va_D (fun x => G.2.2 ≤ x) [(a, e)] := hDc.weaken (fun _ x _ h => hAb x.1 h)
  have hpreV : ∀ U : State, U.heap = H → s.WarmedH U.vm → va_Pc [.ref a, v] (pr_ G [(a, e)].length (aL_ [(a, e)]) (cL_ [(a, e)]) mz_ H.size) ([Value.ref a, v] : List Value).toArray U := fun U hU hW9 => ⟨rfl, by rw [hU], by rw [hU, wl_L]; exact hPc, va_K.moved hW9.alike hK, by rw [wl_L]; exact hDb, hsz, by rw [hU]; exact gk_warm hW9 hgH⟩
  refine va_callv (va_runS (As := [.ref a, v]) (rest := st) ⟨C.1, C.2.1, C.2.2.2.2.2.2.1, C.2.2.2.1, hts⟩ (hM l a H.size) ⟨callB_of 2 hts (gT_in hca.2.1) rfl rfl rfl (hts _ hca.1) (hts _ m1) hca.2.2 hR, hts _ hs⟩ ⟨(fun a U g mk x => by obtain ⟨q0, q1, qP, qK, qD, q2, q3⟩ := x; exact ⟨q0, q1, qP, va_K.moved (u := U) (U := U.calling g mk a) (Vm.Alike.refl U.vm) qK, qD, q2, gk_same (u := U) (U := U.calling g mk a) rfl q3⟩), hpreV⟩ rfl rfl hl.1 rfl (lv_room hW) d hf) hS (fun x _ h => hF x h) hF (fun u t H1 locs1 ht hvm hw hB hz1 hk1 hS1 => ?_)
  obtain ⟨hP1, hK1, hD1⟩ := hB
  rw [ht] at hP1
  obtain ⟨hP2, hD2⟩ := wjs_ hi hP hD hk1 hP1
  exact kk H1 locs1 ls (by rw [wl_L]; exact hP2) (by rw [wl_L]; exact hD2) hS1 hl
theorem xv_ret (C : cx_ G X cc own rm ret nl) {S : Type} {w : S → va_W} (E : eg_ X rm (fun A => qc_ G A w)) (hr : ret = none) (u : S) (hk : k ≤ rm.cells ∧ n ≤ rm.slots) (d : decode cc pc = .ok (.return_, 1)) : wv_ G X (w u) k n pc lv [] := by
  obtain ⟨p, l, e, R, s, m, args, below, meth, c, Q, A, nL⟩ := X
  intro H locs ls hP hD hS hl
  rw [wl_L] at hP hD
  obtain ⟨hx, hb, -, -, hK, -, -, hlocks, -, -, hrt, -, -⟩ := C
  subst hr
  rw [show Q = _ from E]
  refine W.widen hk.1 hk.2 ?_
  exact W.vret hx hb hrt (fun t ht hW => ⟨⟨u, rfl, trivial, by rw [ht]; exact hP, va_K.moved hW.alike hK, hD⟩, hS.F ht⟩) hS.2.2 d hlocks
theorem xv_ext (i0 : Nat) {a n0 : Nat} {c0 : ClassId} {f g : Nat → Option Nat} (hi : ws[i0]? = some (a, .inl (c0, n0, .inr (.inr (.inr (.inr f)))))) (hfg : ∀ j, j < n0 → f j = g j) (h : wv_ G X (ws.set i0 (a, .inl (c0, n0, .inr (.inr (.inr (.inr g)))))) k n pc lv st) : wv_ G X ws k n pc lv st := by
  obtain ⟨p, l, e9, R, s, m, args, below, meth, c, Q, A, nL⟩ := X
  intro H locs ls hP hD hS hl
  rw [wl_L] at hP hD
  have he : vp_cell c0 (n0, .inr (.inr (.inr (.inr f)))) = vp_cell c0 (n0, .inr (.inr (.inr (.inr g)))) := by
    rw [vp_cell_q, vp_cell_q]
    unfold arrV
    rw [show (fun j : Fin n0 => va_rf (f j.val)) = fun j : Fin n0 => va_rf (g j.val) from funext fun j => by rw [hfg j.val j.isLt]]
  refine h H locs ls (by
    rw [wl_L]
    intro k9 x hx
    by_cases hk : k9 = i0
    · subst hk
      rw [List.getElem?_set_self (List.getElem?_eq_some_iff.mp hi).1] at hx
      obtain rfl := Option.some.inj hx
      have h1 := hP k9 _ hi
      show H[a]? = some (vp_cell _ _)
      rw [← he]
      exact h1
    · rw [List.getElem?_set_ne (Ne.symm hk)] at hx
      exact hP k9 x hx) (by rw [wl_L]; exact hD.set hi) hS hl
theorem xx_mu {N : Nat} {ad ad' : Nat → Nat} {ce ce' : Nat → (Int → Int) → va_E} {μ μ' : mu_T} (h0 : ∀ k, k < N → ad k = ad' k ∧ ce k (μ k) = ce' k (μ' k)) (h : wx_ G X N ad' ce' μ' k n pc lv st) : wx_ G X N ad ce μ k n pc lv st := by
  obtain ⟨p, l, e9, R, s, m, args, below, meth, c, Q, A, nL⟩ := X
  intro H locs ls hP hD hS hl
  have e : wl_ N ad ce μ = wl_ N ad' ce' μ' := by
    apply List.ext_getElem?
    intro i
    by_cases hi : i < N
    · rw [wl_get hi, wl_get hi, (h0 i hi).1, (h0 i hi).2]
    · rw [List.getElem?_eq_none (by unfold wl_; rw [List.length_map, List.length_range]; omega), List.getElem?_eq_none (by unfold wl_; rw [List.length_map, List.length_range]; omega)]
  rw [e] at hP hD
  exact h H locs ls hP hD hS hl
end XC
