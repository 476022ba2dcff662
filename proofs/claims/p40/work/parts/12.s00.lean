/-! methods in which a text may grow (written by wip/gen/rows4.py) -/
/-- the addresses, with the two rows of bytes that move -/
def am_ (ad : Nat → Nat) (p q : Nat) : Nat → Nat := fun k => bif Nat.beq k 142 then p else bif Nat.beq k 150 then q else ad k
abbrev qgi_ (G : gp_) (ad : Nat → Nat) (A : Nat → Prop) (a : Int) (μ : mu_T) : Array Value → State → Outcome → State → Prop := va_Qi (fun (r : Int32) (_ : Nat × Nat) => r = iI a) (fun u t => po_ G 151 (am_ ad u.1 u.2) (ceX G (am_ ad u.1 u.2)) A μ t) A
abbrev qgv_ (G : gp_) (ad : Nat → Nat) (A : Nat → Prop) (μ : mu_T) : Array Value → State → Outcome → State → Prop := va_Qv (fun (_ : Nat × Nat) => True) (fun u t => po_ G 151 (am_ ad u.1 u.2) (ceX G (am_ ad u.1 u.2)) A μ t) A
abbrev qgr_ (G : gp_) (ad : Nat → Nat) (A : Nat → Prop) (o : Nat) (μ : mu_T) : Array Value → State → Outcome → State → Prop := va_Qr (fun (_ : Nat × Nat) => True) (fun u b t => b = ad o ∧ po_ G 151 (am_ ad u.1 u.2) (ceX G (am_ ad u.1 u.2)) A μ t) A
def mg_ (y : MethodName) (cc : ByteArray) (maxL : Nat) (ret : Option FieldType) (rm : Room) (G : gp_) (ad : Nat → Nat) (p q : Nat) (av : List Value) (μ : mu_T) (Qc : (Nat → Prop) → Array Value → State → Outcome → State → Prop) : Prop := ∀ (l : Launch) (sz : Nat), Met l y (Cond.code y cc maxL ret :: gT_) rm (va_Pc av (pr_ G 151 (am_ ad p q) (ceX G (am_ ad p q)) μ sz)) (Qc (va_A (wl_ 151 (am_ ad p q) (ceX G (am_ ad p q)) μ) sz)) rm.cells rm.slots (va_A (wl_ 151 (am_ ad p q) (ceX G (am_ ad p q)) μ) sz)
def mgi_ (y : MethodName) (cc : ByteArray) (maxL : Nat) (ret : Option FieldType) (rm : Room) (G : gp_) (ad : Nat → Nat) (p q : Nat) (av : List Value) (μ : mu_T) (a : Int) (μ' : mu_T) : Prop := mg_ y cc maxL ret rm G ad p q av μ (fun A => qgi_ G ad A a μ')
def mgv_ (y : MethodName) (cc : ByteArray) (maxL : Nat) (ret : Option FieldType) (rm : Room) (G : gp_) (ad : Nat → Nat) (p q : Nat) (av : List Value) (μ : mu_T) (μ' : mu_T) : Prop := mg_ y cc maxL ret rm G ad p q av μ (fun A => qgv_ G ad A μ')
def mgr_ (y : MethodName) (cc : ByteArray) (maxL : Nat) (ret : Option FieldType) (rm : Room) (G : gp_) (ad : Nat → Nat) (p q : Nat) (av : List Value) (μ : mu_T) (o : Nat) (μ' : mu_T) : Prop := mg_ y cc maxL ret rm G ad p q av μ (fun A => qgr_ G ad A o μ')
def eg_ (X : ct_) (rm : Room) (Qc : (Nat → Prop) → Array Value → State → Outcome → State → Prop) : Prop := match X with
  | (_, _, _, _, s, _, args, below, _, _, Q, A, _) => Q = MQ below (Qc A) args s rm.cells rm.slots A
theorem mg_in {y : MethodName} {cc : ByteArray} {maxL : Nat} {ret : Option FieldType} {rm : Room} {G : gp_} {ad : Nat → Nat} {p q : Nat} {av : List Value} {μ : mu_T} {Qc : (Nat → Prop) → Array Value → State → Outcome → State → Prop} {own : String} {lv : List (Nat × Value)} (hy : plainName y.cls = true) (hown : y.cls = own) (hlv : lv_args 0 av = lv) (hn : (lg_sl av).length ≤ maxL) (body : ∀ X : ct_, cx_ G X cc own rm ret maxL → eg_ X rm Qc → wx_ G X 151 (am_ ad p q) (ceX G (am_ ad p q)) μ 0 0 0 lv []) : mg_ y cc maxL ret rm G ad p q av μ Qc := by
  intro l sz
  refine Met.ofW (cc := cc) (maxL := maxL) (ret := ret) hy rfl ?_
  intro p9 e s m args below meth c s₁ B hml hv
  obtain ⟨rfl, hsz, hP, hK, hD0, hbs, hg⟩ := hv
  subst hsz
  have hts := atoms_spec (ws := Cond.code y cc maxL ret :: gT_) B.pre
  have hfc : s.vm.findClass y.cls = some m.cls := findClass_of_methodNamed B.named
  rw [lg_entry_eq]
  have hl := lv_entry av hn
  rw [hlv] at hl
  have hAb : ∀ x, va_A (wl_ 151 (am_ ad p q) (ceX G (am_ ad p q)) μ) s.heap.size x → G.2.2 ≤ x := fun x h => by
    rcases h with ⟨k, e, h⟩ | h
    · exact hD0.2 k _ h
    · exact Nat.le_trans hbs h
  exact body (p9, l, e, (headSpec (Cond.code y cc maxL ret :: gT_) rm).room, s, m, av.toArray, below, meth, c, _, va_A (wl_ 151 (am_ ad p q) (ceX G (am_ ad p q)) μ) s.heap.size, maxL)
    ⟨B.exec, B.bytes, fun w hw => hts w (List.mem_cons_of_mem _ hw), hown ▸ hfc, hK, fun q h => Or.inr h, hml, B.notSynchronized, hAb, rfl, B.returns, hg, rfl⟩ rfl s.heap [] _ hP (hD0.self (sz := s.heap.size)) va_S.rf hl
-- budgets
theorem gB_ {k n R T K S c2 s2 C Z : Nat} (h : k + R ≤ K ∧ n + T ≤ S) (h1 : K + c2 ≤ C) (h2 : S + s2 ≤ Z) : k + c2 ≤ C ∧ n + s2 ≤ Z := by omega
theorem gN_ {k n R T K S c2 s2 : Nat} (h : k + R ≤ K ∧ n + T ≤ S) : k + c2 + R ≤ K + c2 ∧ n + s2 + T ≤ S + s2 := by omega
theorem gW_ {k n R T K S K2 S2 : Nat} (h : k + R ≤ K ∧ n + T ≤ S) (h1 : K ≤ K2) (h2 : S ≤ S2) : k + R ≤ K2 ∧ n + T ≤ S2 := by omega
theorem gD_ {k n R T K S K2 S2 : Nat} (h : k + R ≤ K ∧ n + T ≤ S) (h1 : K ≤ K2) (h2 : S ≤ S2) : k + 0 ≤ K2 ∧ n + 0 ≤ S2 := by omega
theorem gL_ {k n R T K S K2 S2 a b : Nat} (h : k + R ≤ K ∧ n + T ≤ S) (h1 : K + a ≤ K2) (h2 : S + b ≤ S2) : k + a ≤ K2 ∧ n + b ≤ S2 := by omega
theorem gE_ {k n fu c s K S K2 S2 : Nat} (h : k + c * (fu + 1) ≤ K ∧ n + s * (fu + 1) ≤ S) (h1 : K = K2 + c) (h2 : S = S2 + s) : k + c * fu ≤ K2 ∧ n + s * fu ≤ S2 := by
  rw [Nat.mul_add, Nat.mul_add] at h
  omega
theorem gR_ {k n R T K S C Z : Nat} (h : k + R ≤ K ∧ n + T ≤ S) (h1 : K ≤ C) (h2 : S ≤ Z) : k ≤ C ∧ n ≤ Z := by omega
section XG
variable {G : gp_} {X : ct_} {ad : Nat → Nat} {p q : Nat} {μ : mu_T} {k n pc : Nat} {lv lv1 : List (Nat × Value)} {st stk : List Value} {cc : ByteArray} {own : String} {rm : Room} {ret : Option FieldType} {nl : Nat} {α : Type} {r : α}
theorem xx_giret (C : cx_ G X cc own rm ret nl) {e0 a : Int} {μ2 : mu_T} (E : eg_ X rm (fun A => qgi_ G ad A a μ2)) (hr : ret = some .int) (hk : k ≤ rm.cells ∧ n ≤ rm.slots) (d : decode cc pc = .ok (.ireturn, 1)) (h : some (e0, μ) = some (a, μ2)) : wx_ G X 151 (am_ ad p q) (ceX G (am_ ad p q)) μ k n pc lv [.int (iI e0)] := by
  obtain ⟨p9, l, e, R, s, m, args, below, meth, c, Q, A, nL⟩ := X
  intro H locs ls hP hD hS hl
  obtain ⟨rfl, rfl⟩ := Prod.mk.inj (Option.some.inj h)
  obtain ⟨hx, hb, -, -, hK, -, -, hlocks, -, -, hrt, -, -⟩ := C
  subst hr
  rw [show Q = _ from E]
  refine W.widen hk.1 hk.2 ?_
  exact W.iret hx hb hrt (fun t ht hW => ⟨⟨_, (p, q), rfl, rfl, by rw [ht]; exact hP, va_K.moved hW.alike hK, hD⟩, hS.F ht⟩) hS.2.2 d hlocks
theorem xx_gvret (C : cx_ G X cc own rm ret nl) {μ2 : mu_T} (E : eg_ X rm (fun A => qgv_ G ad A μ2)) (hr : ret = none) (hk : k ≤ rm.cells ∧ n ≤ rm.slots) (d : decode cc pc = .ok (.return_, 1)) (h : some μ = some μ2) : wx_ G X 151 (am_ ad p q) (ceX G (am_ ad p q)) μ k n pc lv [] := by
  obtain ⟨p9, l, e, R, s, m, args, below, meth, c, Q, A, nL⟩ := X
  intro H locs ls hP hD hS hl
  obtain rfl := Option.some.inj h
  obtain ⟨hx, hb, -, -, hK, -, -, hlocks, -, -, hrt, -, -⟩ := C
  subst hr
  rw [show Q = _ from E]
  refine W.widen hk.1 hk.2 ?_
  exact W.vret hx hb hrt (fun t ht hW => ⟨⟨(p, q), rfl, trivial, by rw [ht]; exact hP, va_K.moved hW.alike hK, hD⟩, hS.F ht⟩) hS.2.2 d hlocks
theorem xx_garet (C : cx_ G X cc own rm ret nl) {o : Nat} {cn : String} {μ2 : mu_T} (E : eg_ X rm (fun A => qgr_ G ad A o μ2)) (hr : ret = some (.object cn)) (hk : k ≤ rm.cells ∧ n ≤ rm.slots) (d : decode cc pc = .ok (.areturn, 1)) (h : some μ = some μ2) : wx_ G X 151 (am_ ad p q) (ceX G (am_ ad p q)) μ k n pc lv [.ref (ad o)] := by
  obtain ⟨p9, l, e, R, s, m, args, below, meth, c, Q, A, nL⟩ := X
  intro H locs ls hP hD hS hl
  obtain rfl := Option.some.inj h
  obtain ⟨hx, hb, -, -, hK, -, -, hlocks, -, -, hrt, -, -⟩ := C
  subst hr
  rw [show Q = _ from E]
  refine W.widen hk.1 hk.2 ?_
  exact W.aret hx hb hrt (Or.inl ⟨_, rfl⟩) (Or.inr ⟨_, rfl⟩) (fun t ht hW => ⟨⟨(p, q), _, rfl, trivial, rfl, by rw [ht]; exact hP, va_K.moved hW.alike hK, hD⟩, hS.F ht⟩) hS.2.2 d hlocks

theorem xx_gVi (C : cx_ G X cc own rm ret nl) (pcn : Nat) (hp : pc + 3 = pcn) {F : Option (Int × mu_T)} {f : Int → mu_T → Option α} {y : MethodName} {bytes : ByteArray} {maxL nA index : Nat} {ret2 : Option FieldType} {rm2 : Room} {As : List Value} {ci o : Nat} {fs : List Value} {qc : vw_C} (ho : o < 151) (he : ceX G (am_ ad p q) o (μ o) = .inr (ci, fs)) (hc : vwCl[ci]? = some qc) (hcl : qc.1 = y.cls) (hca : ca_ y bytes maxL ret2 nA) (hcv : cv_ y) (m1 : Cond.methodLink own index y ∈ gT_) (hn : As.length = nA) (hR : rm2.frames + 1 ≤ rm.frames ∧ 8 + (maxL + 11) + rm2.locals ≤ rm.locals) (hf : k + rm2.cells ≤ rm.cells ∧ n + rm2.slots ≤ rm.slots) (hW : (st.map fun v => v.category).sum ≤ 8) (d : decode cc pc = .ok (.invokevirtual index, 3)) (hM : ∀ a μ1, F = some (a, μ1) → mgi_ y bytes maxL ret2 rm2 G ad p q (.ref (am_ ad p q o) :: As) μ a μ1) (h : bp_ F f = some r) (kk : ∀ p1 q1 a μ1, f a μ1 = some r → wx_ G X 151 (am_ ad p1 q1) (ceX G (am_ ad p1 q1)) μ1 (k + rm2.cells) (n + rm2.slots) pcn lv (.int (iI a) :: st)) (hst : stk = As.reverse ++ .ref (am_ ad p q o) :: st) : wx_ G X 151 (am_ ad p q) (ceX G (am_ ad p q)) μ k n pc lv stk := by
  obtain ⟨p9, l, e, R, s, m, args, below, meth, c, Q, A, nL⟩ := X
  intro H locs ls hP hD hS hl
  subst hp
  have hts := C.2.2.1
  have hK := C.2.2.2.2.1
  have hA := C.2.2.2.2.2.1
  have hAb := C.2.2.2.2.2.2.2.2.1
  have hR' : R = rm := C.2.2.2.2.2.2.2.2.2.1
  have hg := C.2.2.2.2.2.2.2.2.2.2.2.1
  subst hR'
  have hsz : G.2.2 ≤ H.size := by
    have h1 := hAb s.heap.size (hA _ (Nat.le_refl _))
    exact Nat.le_trans h1 hS.1
  have hDb : va_D (fun x => G.2.2 ≤ x) (wl_ 151 (am_ ad p q) (ceX G (am_ ad p q)) μ) := hD.weaken (fun _ x _ h => hAb x.1 h)
  have hgH : gk_ G s H := gk_kept hg (fun a h1 h2 => hS.2.1 a h1 (fun x => h2 (hAb a x)))
  have hF : ∀ x, va_A (wl_ 151 (am_ ad p q) (ceX G (am_ ad p q)) μ) H.size x → A x := fun x h => by
    rcases h with ⟨j, e9, h⟩ | h
    · exact hD.2 j _ h
    · exact hA x (Nat.le_trans hS.1 h)
  have hpre : ∀ U : State, U.heap = H → s.WarmedH U.vm → pr_ G 151 (am_ ad p q) (ceX G (am_ ad p q)) μ H.size U := fun U hU hW9 => ⟨by rw [hU], by rw [hU]; exact hP, va_K.moved hW9.alike hK, hDb, hsz, by rw [hU]; exact gk_warm hW9 hgH⟩
  subst hst
  obtain ⟨a9, μ9, e9, h⟩ := bp_e h
  have hM9 := hM a9 μ9 e9 l H.size
  have hpreV : ∀ U : State, U.heap = H → s.WarmedH U.vm → va_Pc (.ref (am_ ad p q o) :: As) (pr_ G 151 (am_ ad p q) (ceX G (am_ ad p q)) μ H.size) (Value.ref (am_ ad p q o) :: As).toArray U := fun U hU hW9 => ⟨rfl, hpre U hU hW9⟩
  refine va_calli (va_runV (rest := st) ⟨C.1, C.2.1, C.2.2.2.2.2.2.1, C.2.2.2.1, hts⟩ hM9 ⟨callB_of nA hts (gT_in hca.2.1) rfl rfl rfl (hts _ hca.1) (hts _ m1) hca.2.2 hR, hts _ hcv.1, hts _ hcv.2⟩ ⟨(fun a U g mk x => by obtain ⟨q0, q1, qP, qK, qD, q2, q3⟩ := x; exact ⟨q0, q1, qP, va_K.moved (u := U) (U := U.calling g mk a) (Vm.Alike.refl U.vm) qK, qD, q2, gk_same (u := U) (U := U.calling g mk a) rfl q3⟩), (by have h9 := va_recv hK hP hc ((wl_get ho).trans (by rw [he])); rw [hcl] at h9; exact h9), hpreV⟩ rfl hn hl.1 rfl (lv_room hW) d hf) hS (fun x _ h => hF x h) hF (fun r9 u t H1 locs1 ht hvm hw hB hz1 hk1 hS1 => ?_)
  obtain ⟨hP1, hK1, hD1⟩ := hB
  rw [ht] at hP1
  rw [hw]
  exact kk u.1 u.2 a9 μ9 h H1 locs1 ls hP1 (hD1.weaken (fun _ x _ h => hF x.1 h)) hS1 hl
theorem xx_gVv (C : cx_ G X cc own rm ret nl) (pcn : Nat) (hp : pc + 3 = pcn) {F : Option mu_T} {f : mu_T → Option α} {y : MethodName} {bytes : ByteArray} {maxL nA index : Nat} {ret2 : Option FieldType} {rm2 : Room} {As : List Value} {ci o : Nat} {fs : List Value} {qc : vw_C} (ho : o < 151) (he : ceX G (am_ ad p q) o (μ o) = .inr (ci, fs)) (hc : vwCl[ci]? = some qc) (hcl : qc.1 = y.cls) (hca : ca_ y bytes maxL ret2 nA) (hcv : cv_ y) (m1 : Cond.methodLink own index y ∈ gT_) (hn : As.length = nA) (hR : rm2.frames + 1 ≤ rm.frames ∧ 8 + (maxL + 11) + rm2.locals ≤ rm.locals) (hf : k + rm2.cells ≤ rm.cells ∧ n + rm2.slots ≤ rm.slots) (hW : (st.map fun v => v.category).sum ≤ 8) (d : decode cc pc = .ok (.invokevirtual index, 3)) (hM : ∀ μ1, F = some μ1 → mgv_ y bytes maxL ret2 rm2 G ad p q (.ref (am_ ad p q o) :: As) μ μ1) (h : bd_ F f = some r) (kk : ∀ p1 q1 μ1, f μ1 = some r → wx_ G X 151 (am_ ad p1 q1) (ceX G (am_ ad p1 q1)) μ1 (k + rm2.cells) (n + rm2.slots) pcn lv st) (hst : stk = As.reverse ++ .ref (am_ ad p q o) :: st) : wx_ G X 151 (am_ ad p q) (ceX G (am_ ad p q)) μ k n pc lv stk := by
  obtain ⟨p9, l, e, R, s, m, args, below, meth, c, Q, A, nL⟩ := X
  intro H locs ls hP hD hS hl
  subst hp
  have hts := C.2.2.1
  have hK := C.2.2.2.2.1
  have hA := C.2.2.2.2.2.1
  have hAb := C.2.2.2.2.2.2.2.2.1
  have hR' : R = rm := C.2.2.2.2.2.2.2.2.2.1
  have hg := C.2.2.2.2.2.2.2.2.2.2.2.1
  subst hR'
  have hsz : G.2.2 ≤ H.size := by
    have h1 := hAb s.heap.size (hA _ (Nat.le_refl _))
    exact Nat.le_trans h1 hS.1
  have hDb : va_D (fun x => G.2.2 ≤ x) (wl_ 151 (am_ ad p q) (ceX G (am_ ad p q)) μ) := hD.weaken (fun _ x _ h => hAb x.1 h)
  have hgH : gk_ G s H := gk_kept hg (fun a h1 h2 => hS.2.1 a h1 (fun x => h2 (hAb a x)))
  have hF : ∀ x, va_A (wl_ 151 (am_ ad p q) (ceX G (am_ ad p q)) μ) H.size x → A x := fun x h => by
    rcases h with ⟨j, e9, h⟩ | h
    · exact hD.2 j _ h
    · exact hA x (Nat.le_trans hS.1 h)
  have hpre : ∀ U : State, U.heap = H → s.WarmedH U.vm → pr_ G 151 (am_ ad p q) (ceX G (am_ ad p q)) μ H.size U := fun U hU hW9 => ⟨by rw [hU], by rw [hU]; exact hP, va_K.moved hW9.alike hK, hDb, hsz, by rw [hU]; exact gk_warm hW9 hgH⟩
  subst hst
  obtain ⟨μ9, e9, h⟩ := bd_e h
  have hM9 := hM μ9 e9 l H.size
  have hpreV : ∀ U : State, U.heap = H → s.WarmedH U.vm → va_Pc (.ref (am_ ad p q o) :: As) (pr_ G 151 (am_ ad p q) (ceX G (am_ ad p q)) μ H.size) (Value.ref (am_ ad p q o) :: As).toArray U := fun U hU hW9 => ⟨rfl, hpre U hU hW9⟩
  refine va_callv (va_runV (rest := st) ⟨C.1, C.2.1, C.2.2.2.2.2.2.1, C.2.2.2.1, hts⟩ hM9 ⟨callB_of nA hts (gT_in hca.2.1) rfl rfl rfl (hts _ hca.1) (hts _ m1) hca.2.2 hR, hts _ hcv.1, hts _ hcv.2⟩ ⟨(fun a U g mk x => by obtain ⟨q0, q1, qP, qK, qD, q2, q3⟩ := x; exact ⟨q0, q1, qP, va_K.moved (u := U) (U := U.calling g mk a) (Vm.Alike.refl U.vm) qK, qD, q2, gk_same (u := U) (U := U.calling g mk a) rfl q3⟩), (by have h9 := va_recv hK hP hc ((wl_get ho).trans (by rw [he])); rw [hcl] at h9; exact h9), hpreV⟩ rfl hn hl.1 rfl (lv_room hW) d hf) hS (fun x _ h => hF x h) hF (fun u t H1 locs1 ht hvm hw hB hz1 hk1 hS1 => ?_)
  obtain ⟨hP1, hK1, hD1⟩ := hB
  rw [ht] at hP1
  exact kk u.1 u.2 μ9 h H1 locs1 ls hP1 (hD1.weaken (fun _ x _ h => hF x.1 h)) hS1 hl
theorem xx_gVr (C : cx_ G X cc own rm ret nl) (pcn : Nat) (hp : pc + 3 = pcn) {F : Option mu_T} {f : mu_T → Option α} {y : MethodName} {bytes : ByteArray} {maxL nA index : Nat} {ret2 : Option FieldType} {rm2 : Room} {As : List Value} {ci o : Nat} {fs : List Value} {qc : vw_C} (ho : o < 151) (he : ceX G (am_ ad p q) o (μ o) = .inr (ci, fs)) (hc : vwCl[ci]? = some qc) (hcl : qc.1 = y.cls) (hca : ca_ y bytes maxL ret2 nA) (hcv : cv_ y) (m1 : Cond.methodLink own index y ∈ gT_) (hn : As.length = nA) (hR : rm2.frames + 1 ≤ rm.frames ∧ 8 + (maxL + 11) + rm2.locals ≤ rm.locals) (hf : k + rm2.cells ≤ rm.cells ∧ n + rm2.slots ≤ rm.slots) (hW : (st.map fun v => v.category).sum ≤ 8) (d : decode cc pc = .ok (.invokevirtual index, 3)) (hM : ∀ μ1, F = some μ1 → mgr_ y bytes maxL ret2 rm2 G ad p q (.ref (am_ ad p q o) :: As) μ o μ1) (h : bd_ F f = some r) (kk : ∀ p1 q1 μ1, f μ1 = some r → wx_ G X 151 (am_ ad p1 q1) (ceX G (am_ ad p1 q1)) μ1 (k + rm2.cells) (n + rm2.slots) pcn lv (.ref (ad o) :: st)) (hst : stk = As.reverse ++ .ref (am_ ad p q o) :: st) : wx_ G X 151 (am_ ad p q) (ceX G (am_ ad p q)) μ k n pc lv stk := by
  obtain ⟨p9, l, e, R, s, m, args, below, meth, c, Q, A, nL⟩ := X
  intro H locs ls hP hD hS hl
  subst hp
  have hts := C.2.2.1
  have hK := C.2.2.2.2.1
  have hA := C.2.2.2.2.2.1
  have hAb := C.2.2.2.2.2.2.2.2.1
  have hR' : R = rm := C.2.2.2.2.2.2.2.2.2.1
  have hg := C.2.2.2.2.2.2.2.2.2.2.2.1
  subst hR'
  have hsz : G.2.2 ≤ H.size := by
    have h1 := hAb s.heap.size (hA _ (Nat.le_refl _))
    exact Nat.le_trans h1 hS.1
  have hDb : va_D (fun x => G.2.2 ≤ x) (wl_ 151 (am_ ad p q) (ceX G (am_ ad p q)) μ) := hD.weaken (fun _ x _ h => hAb x.1 h)
  have hgH : gk_ G s H := gk_kept hg (fun a h1 h2 => hS.2.1 a h1 (fun x => h2 (hAb a x)))
  have hF : ∀ x, va_A (wl_ 151 (am_ ad p q) (ceX G (am_ ad p q)) μ) H.size x → A x := fun x h => by
    rcases h with ⟨j, e9, h⟩ | h
    · exact hD.2 j _ h
    · exact hA x (Nat.le_trans hS.1 h)
  have hpre : ∀ U : State, U.heap = H → s.WarmedH U.vm → pr_ G 151 (am_ ad p q) (ceX G (am_ ad p q)) μ H.size U := fun U hU hW9 => ⟨by rw [hU], by rw [hU]; exact hP, va_K.moved hW9.alike hK, hDb, hsz, by rw [hU]; exact gk_warm hW9 hgH⟩
  subst hst
  obtain ⟨μ9, e9, h⟩ := bd_e h
  have hM9 := hM μ9 e9 l H.size
  have hpreV : ∀ U : State, U.heap = H → s.WarmedH U.vm → va_Pc (.ref (am_ ad p q o) :: As) (pr_ G 151 (am_ ad p q) (ceX G (am_ ad p q)) μ H.size) (Value.ref (am_ ad p q o) :: As).toArray U := fun U hU hW9 => ⟨rfl, hpre U hU hW9⟩
  refine va_callr (va_runV (rest := st) ⟨C.1, C.2.1, C.2.2.2.2.2.2.1, C.2.2.2.1, hts⟩ hM9 ⟨callB_of nA hts (gT_in hca.2.1) rfl rfl rfl (hts _ hca.1) (hts _ m1) hca.2.2 hR, hts _ hcv.1, hts _ hcv.2⟩ ⟨(fun a U g mk x => by obtain ⟨q0, q1, qP, qK, qD, q2, q3⟩ := x; exact ⟨q0, q1, qP, va_K.moved (u := U) (U := U.calling g mk a) (Vm.Alike.refl U.vm) qK, qD, q2, gk_same (u := U) (U := U.calling g mk a) rfl q3⟩), (by have h9 := va_recv hK hP hc ((wl_get ho).trans (by rw [he])); rw [hcl] at h9; exact h9), hpreV⟩ rfl hn hl.1 rfl (lv_room hW) d hf) hS (fun x _ h => hF x h) hF (fun u ra t H1 locs1 ht hvm hw hB hz1 hk1 hS1 => ?_)
  obtain ⟨hra, hP1, hK1, hD1⟩ := hB
  rw [ht] at hP1
  rw [hra]
  exact kk u.1 u.2 μ9 h H1 locs1 ls hP1 (hD1.weaken (fun _ x _ h => hF x.1 h)) hS1 hl
theorem xx_gPi (C : cx_ G X cc own rm ret nl) (pcn : Nat) (hp : pc + 3 = pcn) {F : Option (Int × mu_T)} {f : Int → mu_T → Option α} {y : MethodName} {bytes : ByteArray} {maxL nA index : Nat} {ret2 : Option FieldType} {rm2 : Room} {As : List Value} {ci o : Nat} {fs : List Value} {qc : vw_C} (ho : o < 151) (he : ceX G (am_ ad p q) o (μ o) = .inr (ci, fs)) (hc : vwCl[ci]? = some qc) (hca : ca_ y bytes maxL ret2 nA) (hcu : cu_ y) (hsup : Cond.superclass own y.cls ∈ gT_) (m1 : Cond.methodLink own index y ∈ gT_) (hn : As.length = nA) (hR : rm2.frames + 1 ≤ rm.frames ∧ 8 + (maxL + 11) + rm2.locals ≤ rm.locals) (hf : k + rm2.cells ≤ rm.cells ∧ n + rm2.slots ≤ rm.slots) (hW : (st.map fun v => v.category).sum ≤ 8) (d : decode cc pc = .ok (.invokespecial index, 3)) (hM : ∀ a μ1, F = some (a, μ1) → mgi_ y bytes maxL ret2 rm2 G ad p q (.ref (am_ ad p q o) :: As) μ a μ1) (h : bp_ F f = some r) (kk : ∀ p1 q1 a μ1, f a μ1 = some r → wx_ G X 151 (am_ ad p1 q1) (ceX G (am_ ad p1 q1)) μ1 (k + rm2.cells) (n + rm2.slots) pcn lv (.int (iI a) :: st)) (hst : stk = As.reverse ++ .ref (am_ ad p q o) :: st) : wx_ G X 151 (am_ ad p q) (ceX G (am_ ad p q)) μ k n pc lv stk := by
  obtain ⟨p9, l, e, R, s, m, args, below, meth, c, Q, A, nL⟩ := X
  intro H locs ls hP hD hS hl
  subst hp
  have hts := C.2.2.1
  have hK := C.2.2.2.2.1
  have hA := C.2.2.2.2.2.1
  have hAb := C.2.2.2.2.2.2.2.2.1
  have hR' : R = rm := C.2.2.2.2.2.2.2.2.2.1
  have hg := C.2.2.2.2.2.2.2.2.2.2.2.1
  subst hR'
  have hsz : G.2.2 ≤ H.size := by
    have h1 := hAb s.heap.size (hA _ (Nat.le_refl _))
    exact Nat.le_trans h1 hS.1
  have hDb : va_D (fun x => G.2.2 ≤ x) (wl_ 151 (am_ ad p q) (ceX G (am_ ad p q)) μ) := hD.weaken (fun _ x _ h => hAb x.1 h)
  have hgH : gk_ G s H := gk_kept hg (fun a h1 h2 => hS.2.1 a h1 (fun x => h2 (hAb a x)))
  have hF : ∀ x, va_A (wl_ 151 (am_ ad p q) (ceX G (am_ ad p q)) μ) H.size x → A x := fun x h => by
    rcases h with ⟨j, e9, h⟩ | h
    · exact hD.2 j _ h
    · exact hA x (Nat.le_trans hS.1 h)
  have hpre : ∀ U : State, U.heap = H → s.WarmedH U.vm → pr_ G 151 (am_ ad p q) (ceX G (am_ ad p q)) μ H.size U := fun U hU hW9 => ⟨by rw [hU], by rw [hU]; exact hP, va_K.moved hW9.alike hK, hDb, hsz, by rw [hU]; exact gk_warm hW9 hgH⟩
  subst hst
  obtain ⟨a9, μ9, e9, h⟩ := bp_e h
  have hM9 := hM a9 μ9 e9 l H.size
  have hpreV : ∀ U : State, U.heap = H → s.WarmedH U.vm → va_Pc (.ref (am_ ad p q o) :: As) (pr_ G 151 (am_ ad p q) (ceX G (am_ ad p q)) μ H.size) (Value.ref (am_ ad p q o) :: As).toArray U := fun U hU hW9 => ⟨rfl, hpre U hU hW9⟩
  refine va_calli (va_runSU (hK.1 ci _ hc).2 (rest := st) ⟨C.1, C.2.1, C.2.2.2.2.2.2.1, C.2.2.2.1, hts⟩ hM9 ⟨⟨rfl, rfl, hR.1, hR.2, pay_in hts (gT_in hca.2.1), List.mem_cons_self⟩, hts _ m1, hts _ hcu.1, hts _ hsup, hts _ hcu.2.1, hts _ hca.1, hts _ hca.2.1, hcu.2.2, (fun sig h9 => by have h2 := hca.2.2.2.2; rw [h9] at h2; exact (Option.some.inj h2).symm)⟩ ⟨(fun a U g mk x => by obtain ⟨q0, q1, qP, qK, qD, q2, q3⟩ := x; exact ⟨q0, q1, qP, va_K.moved (u := U) (U := U.calling g mk a) (Vm.Alike.refl U.vm) qK, qD, q2, gk_same (u := U) (U := U.calling g mk a) rfl q3⟩), va_recv hK hP hc ((wl_get ho).trans (by rw [he])), hpreV⟩ rfl hn hl.1 rfl (lv_room hW) d hf) hS (fun x _ h => hF x h) hF (fun r9 u t H1 locs1 ht hvm hw hB hz1 hk1 hS1 => ?_)
  obtain ⟨hP1, hK1, hD1⟩ := hB
  rw [ht] at hP1
  rw [hw]
  exact kk u.1 u.2 a9 μ9 h H1 locs1 ls hP1 (hD1.weaken (fun _ x _ h => hF x.1 h)) hS1 hl
theorem xx_gPv (C : cx_ G X cc own rm ret nl) (pcn : Nat) (hp : pc + 3 = pcn) {F : Option mu_T} {f : mu_T → Option α} {y : MethodName} {bytes : ByteArray} {maxL nA index : Nat} {ret2 : Option FieldType} {rm2 : Room} {As : List Value} {ci o : Nat} {fs : List Value} {qc : vw_C} (ho : o < 151) (he : ceX G (am_ ad p q) o (μ o) = .inr (ci, fs)) (hc : vwCl[ci]? = some qc) (hca : ca_ y bytes maxL ret2 nA) (hcu : cu_ y) (hsup : Cond.superclass own y.cls ∈ gT_) (m1 : Cond.methodLink own index y ∈ gT_) (hn : As.length = nA) (hR : rm2.frames + 1 ≤ rm.frames ∧ 8 + (maxL + 11) + rm2.locals ≤ rm.locals) (hf : k + rm2.cells ≤ rm.cells ∧ n + rm2.slots ≤ rm.slots) (hW : (st.map fun v => v.category).sum ≤ 8) (d : decode cc pc = .ok (.invokespecial index, 3)) (hM : ∀ μ1, F = some μ1 → mgv_ y bytes maxL ret2 rm2 G ad p q (.ref (am_ ad p q o) :: As) μ μ1) (h : bd_ F f = some r) (kk : ∀ p1 q1 μ1, f μ1 = some r → wx_ G X 151 (am_ ad p1 q1) (ceX G (am_ ad p1 q1)) μ1 (k + rm2.cells) (n + rm2.slots) pcn lv st) (hst : stk = As.reverse ++ .ref (am_ ad p q o) :: st) : wx_ G X 151 (am_ ad p q) (ceX G (am_ ad p q)) μ k n pc lv stk := by
  obtain ⟨p9, l, e, R, s, m, args, below, meth, c, Q, A, nL⟩ := X
  intro H locs ls hP hD hS hl
  subst hp
  have hts := C.2.2.1
  have hK := C.2.2.2.2.1
  have hA := C.2.2.2.2.2.1
  have hAb := C.2.2.2.2.2.2.2.2.1
  have hR' : R = rm := C.2.2.2.2.2.2.2.2.2.1
  have hg := C.2.2.2.2.2.2.2.2.2.2.2.1
  subst hR'
  have hsz : G.2.2 ≤ H.size := by
    have h1 := hAb s.heap.size (hA _ (Nat.le_refl _))
    exact Nat.le_trans h1 hS.1
  have hDb : va_D (fun x => G.2.2 ≤ x) (wl_ 151 (am_ ad p q) (ceX G (am_ ad p q)) μ) := hD.weaken (fun _ x _ h => hAb x.1 h)
  have hgH : gk_ G s H := gk_kept hg (fun a h1 h2 => hS.2.1 a h1 (fun x => h2 (hAb a x)))
  have hF : ∀ x, va_A (wl_ 151 (am_ ad p q) (ceX G (am_ ad p q)) μ) H.size x → A x := fun x h => by
    rcases h with ⟨j, e9, h⟩ | h
    · exact hD.2 j _ h
    · exact hA x (Nat.le_trans hS.1 h)
  have hpre : ∀ U : State, U.heap = H → s.WarmedH U.vm → pr_ G 151 (am_ ad p q) (ceX G (am_ ad p q)) μ H.size U := fun U hU hW9 => ⟨by rw [hU], by rw [hU]; exact hP, va_K.moved hW9.alike hK, hDb, hsz, by rw [hU]; exact gk_warm hW9 hgH⟩
  subst hst
  obtain ⟨μ9, e9, h⟩ := bd_e h
  have hM9 := hM μ9 e9 l H.size
  have hpreV : ∀ U : State, U.heap = H → s.WarmedH U.vm → va_Pc (.ref (am_ ad p q o) :: As) (pr_ G 151 (am_ ad p q) (ceX G (am_ ad p q)) μ H.size) (Value.ref (am_ ad p q o) :: As).toArray U := fun U hU hW9 => ⟨rfl, hpre U hU hW9⟩
  refine va_callv (va_runSU (hK.1 ci _ hc).2 (rest := st) ⟨C.1, C.2.1, C.2.2.2.2.2.2.1, C.2.2.2.1, hts⟩ hM9 ⟨⟨rfl, rfl, hR.1, hR.2, pay_in hts (gT_in hca.2.1), List.mem_cons_self⟩, hts _ m1, hts _ hcu.1, hts _ hsup, hts _ hcu.2.1, hts _ hca.1, hts _ hca.2.1, hcu.2.2, (fun sig h9 => by have h2 := hca.2.2.2.2; rw [h9] at h2; exact (Option.some.inj h2).symm)⟩ ⟨(fun a U g mk x => by obtain ⟨q0, q1, qP, qK, qD, q2, q3⟩ := x; exact ⟨q0, q1, qP, va_K.moved (u := U) (U := U.calling g mk a) (Vm.Alike.refl U.vm) qK, qD, q2, gk_same (u := U) (U := U.calling g mk a) rfl q3⟩), va_recv hK hP hc ((wl_get ho).trans (by rw [he])), hpreV⟩ rfl hn hl.1 rfl (lv_room hW) d hf) hS (fun x _ h => hF x h) hF (fun u t H1 locs1 ht hvm hw hB hz1 hk1 hS1 => ?_)
  obtain ⟨hP1, hK1, hD1⟩ := hB
  rw [ht] at hP1
  exact kk u.1 u.2 μ9 h H1 locs1 ls hP1 (hD1.weaken (fun _ x _ h => hF x.1 h)) hS1 hl
theorem xx_gPr (C : cx_ G X cc own rm ret nl) (pcn : Nat) (hp : pc + 3 = pcn) {F : Option mu_T} {f : mu_T → Option α} {y : MethodName} {bytes : ByteArray} {maxL nA index : Nat} {ret2 : Option FieldType} {rm2 : Room} {As : List Value} {ci o : Nat} {fs : List Value} {qc : vw_C} (ho : o < 151) (he : ceX G (am_ ad p q) o (μ o) = .inr (ci, fs)) (hc : vwCl[ci]? = some qc) (hca : ca_ y bytes maxL ret2 nA) (hcu : cu_ y) (hsup : Cond.superclass own y.cls ∈ gT_) (m1 : Cond.methodLink own index y ∈ gT_) (hn : As.length = nA) (hR : rm2.frames + 1 ≤ rm.frames ∧ 8 + (maxL + 11) + rm2.locals ≤ rm.locals) (hf : k + rm2.cells ≤ rm.cells ∧ n + rm2.slots ≤ rm.slots) (hW : (st.map fun v => v.category).sum ≤ 8) (d : decode cc pc = .ok (.invokespecial index, 3)) (hM : ∀ μ1, F = some μ1 → mgr_ y bytes maxL ret2 rm2 G ad p q (.ref (am_ ad p q o) :: As) μ o μ1) (h : bd_ F f = some r) (kk : ∀ p1 q1 μ1, f μ1 = some r → wx_ G X 151 (am_ ad p1 q1) (ceX G (am_ ad p1 q1)) μ1 (k + rm2.cells) (n + rm2.slots) pcn lv (.ref (ad o) :: st)) (hst : stk = As.reverse ++ .ref (am_ ad p q o) :: st) : wx_ G X 151 (am_ ad p q) (ceX G (am_ ad p q)) μ k n pc lv stk := by
  obtain ⟨p9, l, e, R, s, m, args, below, meth, c, Q, A, nL⟩ := X
  intro H locs ls hP hD hS hl
  subst hp
  have hts := C.2.2.1
  have hK := C.2.2.2.2.1
  have hA := C.2.2.2.2.2.1
  have hAb := C.2.2.2.2.2.2.2.2.1
  have hR' : R = rm := C.2.2.2.2.2.2.2.2.2.1
  have hg := C.2.2.2.2.2.2.2.2.2.2.2.1
  subst hR'
  have hsz : G.2.2 ≤ H.size := by
    have h1 := hAb s.heap.size (hA _ (Nat.le_refl _))
    exact Nat.le_trans h1 hS.1
  have hDb : va_D (fun x => G.2.2 ≤ x) (wl_ 151 (am_ ad p q) (ceX G (am_ ad p q)) μ) := hD.weaken (fun _ x _ h => hAb x.1 h)
  have hgH : gk_ G s H := gk_kept hg (fun a h1 h2 => hS.2.1 a h1 (fun x => h2 (hAb a x)))
  have hF : ∀ x, va_A (wl_ 151 (am_ ad p q) (ceX G (am_ ad p q)) μ) H.size x → A x := fun x h => by
    rcases h with ⟨j, e9, h⟩ | h
    · exact hD.2 j _ h
    · exact hA x (Nat.le_trans hS.1 h)
  have hpre : ∀ U : State, U.heap = H → s.WarmedH U.vm → pr_ G 151 (am_ ad p q) (ceX G (am_ ad p q)) μ H.size U := fun U hU hW9 => ⟨by rw [hU], by rw [hU]; exact hP, va_K.moved hW9.alike hK, hDb, hsz, by rw [hU]; exact gk_warm hW9 hgH⟩
  subst hst
  obtain ⟨μ9, e9, h⟩ := bd_e h
  have hM9 := hM μ9 e9 l H.size
  have hpreV : ∀ U : State, U.heap = H → s.WarmedH U.vm → va_Pc (.ref (am_ ad p q o) :: As) (pr_ G 151 (am_ ad p q) (ceX G (am_ ad p q)) μ H.size) (Value.ref (am_ ad p q o) :: As).toArray U := fun U hU hW9 => ⟨rfl, hpre U hU hW9⟩
  refine va_callr (va_runSU (hK.1 ci _ hc).2 (rest := st) ⟨C.1, C.2.1, C.2.2.2.2.2.2.1, C.2.2.2.1, hts⟩ hM9 ⟨⟨rfl, rfl, hR.1, hR.2, pay_in hts (gT_in hca.2.1), List.mem_cons_self⟩, hts _ m1, hts _ hcu.1, hts _ hsup, hts _ hcu.2.1, hts _ hca.1, hts _ hca.2.1, hcu.2.2, (fun sig h9 => by have h2 := hca.2.2.2.2; rw [h9] at h2; exact (Option.some.inj h2).symm)⟩ ⟨(fun a U g mk x => by obtain ⟨q0, q1, qP, qK, qD, q2, q3⟩ := x; exact ⟨q0, q1, qP, va_K.moved (u := U) (U := U.calling g mk a) (Vm.Alike.refl U.vm) qK, qD, q2, gk_same (u := U) (U := U.calling g mk a) rfl q3⟩), va_recv hK hP hc ((wl_get ho).trans (by rw [he])), hpreV⟩ rfl hn hl.1 rfl (lv_room hW) d hf) hS (fun x _ h => hF x h) hF (fun u ra t H1 locs1 ht hvm hw hB hz1 hk1 hS1 => ?_)
  obtain ⟨hra, hP1, hK1, hD1⟩ := hB
  rw [ht] at hP1
  rw [hra]
  exact kk u.1 u.2 μ9 h H1 locs1 ls hP1 (hD1.weaken (fun _ x _ h => hF x.1 h)) hS1 hl
theorem xx_gUi (C : cx_ G X cc own rm ret nl) (pcn : Nat) (hp : pc + 3 = pcn) {F : Option (Int × mu_T)} {f : Int → mu_T → Option α} {y : MethodName} {bytes : ByteArray} {maxL nA index : Nat} {ret2 : Option FieldType} {rm2 : Room} {As : List Value} {ci o : Nat} {fs : List Value} {qc : vw_C} (ho : o < 151) (he : ceX G (am_ ad p q) o (μ o) = .inr (ci, fs)) (hc : vwCl[ci]? = some qc) (hca : ca_ y bytes maxL ret2 nA) (hcu : cu_ y) (hse : se_ G qc.1 y y) (m1 : Cond.methodLink own index y ∈ gT_) (hn : As.length = nA) (hR : rm2.frames + 1 ≤ rm.frames ∧ 8 + (maxL + 11) + rm2.locals ≤ rm.locals) (hf : k + rm2.cells ≤ rm.cells ∧ n + rm2.slots ≤ rm.slots) (hW : (st.map fun v => v.category).sum ≤ 8) (d : decode cc pc = .ok (.invokevirtual index, 3)) (hM : ∀ a μ1, F = some (a, μ1) → mgi_ y bytes maxL ret2 rm2 G ad p q (.ref (am_ ad p q o) :: As) μ a μ1) (h : bp_ F f = some r) (kk : ∀ p1 q1 a μ1, f a μ1 = some r → wx_ G X 151 (am_ ad p1 q1) (ceX G (am_ ad p1 q1)) μ1 (k + rm2.cells) (n + rm2.slots) pcn lv (.int (iI a) :: st)) (hst : stk = As.reverse ++ .ref (am_ ad p q o) :: st) : wx_ G X 151 (am_ ad p q) (ceX G (am_ ad p q)) μ k n pc lv stk := by
  obtain ⟨p9, l, e, R, s, m, args, below, meth, c, Q, A, nL⟩ := X
  intro H locs ls hP hD hS hl
  subst hp
  have hts := C.2.2.1
  have hK := C.2.2.2.2.1
  have hA := C.2.2.2.2.2.1
  have hAb := C.2.2.2.2.2.2.2.2.1
  have hR' : R = rm := C.2.2.2.2.2.2.2.2.2.1
  have hg := C.2.2.2.2.2.2.2.2.2.2.2.1
  subst hR'
  have hsz : G.2.2 ≤ H.size := by
    have h1 := hAb s.heap.size (hA _ (Nat.le_refl _))
    exact Nat.le_trans h1 hS.1
  have hDb : va_D (fun x => G.2.2 ≤ x) (wl_ 151 (am_ ad p q) (ceX G (am_ ad p q)) μ) := hD.weaken (fun _ x _ h => hAb x.1 h)
  have hgH : gk_ G s H := gk_kept hg (fun a h1 h2 => hS.2.1 a h1 (fun x => h2 (hAb a x)))
  have hF : ∀ x, va_A (wl_ 151 (am_ ad p q) (ceX G (am_ ad p q)) μ) H.size x → A x := fun x h => by
    rcases h with ⟨j, e9, h⟩ | h
    · exact hD.2 j _ h
    · exact hA x (Nat.le_trans hS.1 h)
  have hpre : ∀ U : State, U.heap = H → s.WarmedH U.vm → pr_ G 151 (am_ ad p q) (ceX G (am_ ad p q)) μ H.size U := fun U hU hW9 => ⟨by rw [hU], by rw [hU]; exact hP, va_K.moved hW9.alike hK, hDb, hsz, by rw [hU]; exact gk_warm hW9 hgH⟩
  subst hst
  obtain ⟨a9, μ9, e9, h⟩ := bp_e h
  have hM9 := hM a9 μ9 e9 l H.size
  have hpreV : ∀ U : State, U.heap = H → s.WarmedH U.vm → va_Pc (.ref (am_ ad p q o) :: As) (pr_ G 151 (am_ ad p q) (ceX G (am_ ad p q)) μ H.size) (Value.ref (am_ ad p q o) :: As).toArray U := fun U hU hW9 => ⟨rfl, hpre U hU hW9⟩
  refine va_calli (va_runU (C := qc.1) (owner := y.cls) (rest := st) ⟨C.1, C.2.1, C.2.2.2.2.2.2.1, C.2.2.2.1, hts⟩ hM9 ⟨⟨rfl, rfl, hR.1, hR.2, pay_in hts (gT_in hca.2.1), List.mem_cons_self⟩, hts _ hca.2.1, hts _ hca.1, ⟨hca.2.2.1, hca.2.2.2.1⟩, (fun sig h9 => by have h2 := hca.2.2.2.2; rw [h9] at h2; exact (Option.some.inj h2).symm), hts _ m1, hts _ hcu.1, va_Decl.of (hts _ hcu.2.1) (hts _ hca.2.1), hse s s.heap args hts hg, hts _ hcu.2.1⟩ ⟨(fun a U g mk x => by obtain ⟨q0, q1, qP, qK, qD, q2, q3⟩ := x; exact ⟨q0, q1, qP, va_K.moved (u := U) (U := U.calling g mk a) (Vm.Alike.refl U.vm) qK, qD, q2, gk_same (u := U) (U := U.calling g mk a) rfl q3⟩), va_recv hK hP hc ((wl_get ho).trans (by rw [he])), hpreV⟩ rfl hn hl.1 rfl (lv_room hW) d hf) hS (fun x _ h => hF x h) hF (fun r9 u t H1 locs1 ht hvm hw hB hz1 hk1 hS1 => ?_)
  obtain ⟨hP1, hK1, hD1⟩ := hB
  rw [ht] at hP1
  rw [hw]
  exact kk u.1 u.2 a9 μ9 h H1 locs1 ls hP1 (hD1.weaken (fun _ x _ h => hF x.1 h)) hS1 hl
theorem xx_gUv (C : cx_ G X cc own rm ret nl) (pcn : Nat) (hp : pc + 3 = pcn) {F : Option mu_T} {f : mu_T → Option α} {y : MethodName} {bytes : ByteArray} {maxL nA index : Nat} {ret2 : Option FieldType} {rm2 : Room} {As : List Value} {ci o : Nat} {fs : List Value} {qc : vw_C} (ho : o < 151) (he : ceX G (am_ ad p q) o (μ o) = .inr (ci, fs)) (hc : vwCl[ci]? = some qc) (hca : ca_ y bytes maxL ret2 nA) (hcu : cu_ y) (hse : se_ G qc.1 y y) (m1 : Cond.methodLink own index y ∈ gT_) (hn : As.length = nA) (hR : rm2.frames + 1 ≤ rm.frames ∧ 8 + (maxL + 11) + rm2.locals ≤ rm.locals) (hf : k + rm2.cells ≤ rm.cells ∧ n + rm2.slots ≤ rm.slots) (hW : (st.map fun v => v.category).sum ≤ 8) (d : decode cc pc = .ok (.invokevirtual index, 3)) (hM : ∀ μ1, F = some μ1 → mgv_ y bytes maxL ret2 rm2 G ad p q (.ref (am_ ad p q o) :: As) μ μ1) (h : bd_ F f = some r) (kk : ∀ p1 q1 μ1, f μ1 = some r → wx_ G X 151 (am_ ad p1 q1) (ceX G (am_ ad p1 q1)) μ1 (k + rm2.cells) (n + rm2.slots) pcn lv st) (hst : stk = As.reverse ++ .ref (am_ ad p q o) :: st) : wx_ G X 151 (am_ ad p q) (ceX G (am_ ad p q)) μ k n pc lv stk := by
  obtain ⟨p9, l, e, R, s, m, args, below, meth, c, Q, A, nL⟩ := X
  intro H locs ls hP hD hS hl
  subst hp
  have hts := C.2.2.1
  have hK := C.2.2.2.2.1
  have hA := C.2.2.2.2.2.1
  have hAb := C.2.2.2.2.2.2.2.2.1
  have hR' : R = rm := C.2.2.2.2.2.2.2.2.2.1
  have hg := C.2.2.2.2.2.2.2.2.2.2.2.1
  subst hR'
  have hsz : G.2.2 ≤ H.size := by
    have h1 := hAb s.heap.size (hA _ (Nat.le_refl _))
    exact Nat.le_trans h1 hS.1
  have hDb : va_D (fun x => G.2.2 ≤ x) (wl_ 151 (am_ ad p q) (ceX G (am_ ad p q)) μ) := hD.weaken (fun _ x _ h => hAb x.1 h)
  have hgH : gk_ G s H := gk_kept hg (fun a h1 h2 => hS.2.1 a h1 (fun x => h2 (hAb a x)))
  have hF : ∀ x, va_A (wl_ 151 (am_ ad p q) (ceX G (am_ ad p q)) μ) H.size x → A x := fun x h => by
    rcases h with ⟨j, e9, h⟩ | h
    · exact hD.2 j _ h
    · exact hA x (Nat.le_trans hS.1 h)
  have hpre : ∀ U : State, U.heap = H → s.WarmedH U.vm → pr_ G 151 (am_ ad p q) (ceX G (am_ ad p q)) μ H.size U := fun U hU hW9 => ⟨by rw [hU], by rw [hU]; exact hP, va_K.moved hW9.alike hK, hDb, hsz, by rw [hU]; exact gk_warm hW9 hgH⟩
  subst hst
  obtain ⟨μ9, e9, h⟩ := bd_e h
  have hM9 := hM μ9 e9 l H.size
  have hpreV : ∀ U : State, U.heap = H → s.WarmedH U.vm → va_Pc (.ref (am_ ad p q o) :: As) (pr_ G 151 (am_ ad p q) (ceX G (am_ ad p q)) μ H.size) (Value.ref (am_ ad p q o) :: As).toArray U := fun U hU hW9 => ⟨rfl, hpre U hU hW9⟩
  refine va_callv (va_runU (C := qc.1) (owner := y.cls) (rest := st) ⟨C.1, C.2.1, C.2.2.2.2.2.2.1, C.2.2.2.1, hts⟩ hM9 ⟨⟨rfl, rfl, hR.1, hR.2, pay_in hts (gT_in hca.2.1), List.mem_cons_self⟩, hts _ hca.2.1, hts _ hca.1, ⟨hca.2.2.1, hca.2.2.2.1⟩, (fun sig h9 => by have h2 := hca.2.2.2.2; rw [h9] at h2; exact (Option.some.inj h2).symm), hts _ m1, hts _ hcu.1, va_Decl.of (hts _ hcu.2.1) (hts _ hca.2.1), hse s s.heap args hts hg, hts _ hcu.2.1⟩ ⟨(fun a U g mk x => by obtain ⟨q0, q1, qP, qK, qD, q2, q3⟩ := x; exact ⟨q0, q1, qP, va_K.moved (u := U) (U := U.calling g mk a) (Vm.Alike.refl U.vm) qK, qD, q2, gk_same (u := U) (U := U.calling g mk a) rfl q3⟩), va_recv hK hP hc ((wl_get ho).trans (by rw [he])), hpreV⟩ rfl hn hl.1 rfl (lv_room hW) d hf) hS (fun x _ h => hF x h) hF (fun u t H1 locs1 ht hvm hw hB hz1 hk1 hS1 => ?_)
  obtain ⟨hP1, hK1, hD1⟩ := hB
  rw [ht] at hP1
  exact kk u.1 u.2 μ9 h H1 locs1 ls hP1 (hD1.weaken (fun _ x _ h => hF x.1 h)) hS1 hl
theorem xx_gUr (C : cx_ G X cc own rm ret nl) (pcn : Nat) (hp : pc + 3 = pcn) {F : Option mu_T} {f : mu_T → Option α} {y : MethodName} {bytes : ByteArray} {maxL nA index : Nat} {ret2 : Option FieldType} {rm2 : Room} {As : List Value} {ci o : Nat} {fs : List Value} {qc : vw_C} (ho : o < 151) (he : ceX G (am_ ad p q) o (μ o) = .inr (ci, fs)) (hc : vwCl[ci]? = some qc) (hca : ca_ y bytes maxL ret2 nA) (hcu : cu_ y) (hse : se_ G qc.1 y y) (m1 : Cond.methodLink own index y ∈ gT_) (hn : As.length = nA) (hR : rm2.frames + 1 ≤ rm.frames ∧ 8 + (maxL + 11) + rm2.locals ≤ rm.locals) (hf : k + rm2.cells ≤ rm.cells ∧ n + rm2.slots ≤ rm.slots) (hW : (st.map fun v => v.category).sum ≤ 8) (d : decode cc pc = .ok (.invokevirtual index, 3)) (hM : ∀ μ1, F = some μ1 → mgr_ y bytes maxL ret2 rm2 G ad p q (.ref (am_ ad p q o) :: As) μ o μ1) (h : bd_ F f = some r) (kk : ∀ p1 q1 μ1, f μ1 = some r → wx_ G X 151 (am_ ad p1 q1) (ceX G (am_ ad p1 q1)) μ1 (k + rm2.cells) (n + rm2.slots) pcn lv (.ref (ad o) :: st)) (hst : stk = As.reverse ++ .ref (am_ ad p q o) :: st) : wx_ G X 151 (am_ ad p q) (ceX G (am_ ad p q)) μ k n pc lv stk := by
  obtain ⟨p9, l, e, R, s, m, args, below, meth, c, Q, A, nL⟩ := X
  intro H locs ls hP hD hS hl
  subst hp
  have hts := C.2.2.1
  have hK := C.2.2.2.2.1
  have hA := C.2.2.2.2.2.1
  have hAb := C.2.2.2.2.2.2.2.2.1
  have hR' : R = rm := C.2.2.2.2.2.2.2.2.2.1
  have hg := C.2.2.2.2.2.2.2.2.2.2.2.1
  subst hR'
  have hsz : G.2.2 ≤ H.size := by
    have h1 := hAb s.heap.size (hA _ (Nat.le_refl _))
    exact Nat.le_trans h1 hS.1
  have hDb : va_D (fun x => G.2.2 ≤ x) (wl_ 151 (am_ ad p q) (ceX G (am_ ad p q)) μ) := hD.weaken (fun _ x _ h => hAb x.1 h)
  have hgH : gk_ G s H := gk_kept hg (fun a h1 h2 => hS.2.1 a h1 (fun x => h2 (hAb a x)))
  have hF : ∀ x, va_A (wl_ 151 (am_ ad p q) (ceX G (am_ ad p q)) μ) H.size x → A x := fun x h => by
    rcases h with ⟨j, e9, h⟩ | h
    · exact hD.2 j _ h
    · exact hA x (Nat.le_trans hS.1 h)
  have hpre : ∀ U : State, U.heap = H → s.WarmedH U.vm → pr_ G 151 (am_ ad p q) (ceX G (am_ ad p q)) μ H.size U := fun U hU hW9 => ⟨by rw [hU], by rw [hU]; exact hP, va_K.moved hW9.alike hK, hDb, hsz, by rw [hU]; exact gk_warm hW9 hgH⟩
  subst hst
  obtain ⟨μ9, e9, h⟩ := bd_e h
  have hM9 := hM μ9 e9 l H.size
  have hpreV : ∀ U : State, U.heap = H → s.WarmedH U.vm → va_Pc (.ref (am_ ad p q o) :: As) (pr_ G 151 (am_ ad p q) (ceX G (am_ ad p q)) μ H.size) (Value.ref (am_ ad p q o) :: As).toArray U := fun U hU hW9 => ⟨rfl, hpre U hU hW9⟩
  refine va_callr (va_runU (C := qc.1) (owner := y.cls) (rest := st) ⟨C.1, C.2.1, C.2.2.2.2.2.2.1, C.2.2.2.1, hts⟩ hM9 ⟨⟨rfl, rfl, hR.1, hR.2, pay_in hts (gT_in hca.2.1), List.mem_cons_self⟩, hts _ hca.2.1, hts _ hca.1, ⟨hca.2.2.1, hca.2.2.2.1⟩, (fun sig h9 => by have h2 := hca.2.2.2.2; rw [h9] at h2; exact (Option.some.inj h2).symm), hts _ m1, hts _ hcu.1, va_Decl.of (hts _ hcu.2.1) (hts _ hca.2.1), hse s s.heap args hts hg, hts _ hcu.2.1⟩ ⟨(fun a U g mk x => by obtain ⟨q0, q1, qP, qK, qD, q2, q3⟩ := x; exact ⟨q0, q1, qP, va_K.moved (u := U) (U := U.calling g mk a) (Vm.Alike.refl U.vm) qK, qD, q2, gk_same (u := U) (U := U.calling g mk a) rfl q3⟩), va_recv hK hP hc ((wl_get ho).trans (by rw [he])), hpreV⟩ rfl hn hl.1 rfl (lv_room hW) d hf) hS (fun x _ h => hF x h) hF (fun u ra t H1 locs1 ht hvm hw hB hz1 hk1 hS1 => ?_)
  obtain ⟨hra, hP1, hK1, hD1⟩ := hB
  rw [ht] at hP1
  rw [hra]
  exact kk u.1 u.2 μ9 h H1 locs1 ls hP1 (hD1.weaken (fun _ x _ h => hF x.1 h)) hS1 hl
end XG
