/-! a call that answers a reference to one of the kept heaps; a method of a class with entries of the machine's own -/
theorem ofWF_ {l : Launch} {y : MethodName} {ws ws' : List Cond} {rm : Room} {Pc : Array Value → State → Prop} {Qc : Array Value → State → Outcome → State → Prop} {mc ms : Nat} {free : Addr → Prop} {cc : ByteArray} {maxL : Nat} {ret : Option FieldType}
    (hy : Jvm.plainFor y = true) (hw : ws = Cond.code y cc maxL ret :: ws')
    (body : ∀ p e s m args below meth c s₁, BodyLoose p l y (headSpec ws rm) cc maxL ret e s m args below meth c s₁ → c.maxLocals = maxL → Pc args s →
      W p l e (headSpec ws rm).room s m args below meth c s.heap [] 0 0 (MQ below Qc args s mc ms free) (entryFrame m args maxL)) : Met l y ws rm Pc Qc mc ms free := by
  refine MetFree.of_bodySF (code := cc) (maxLocals := maxL) (ret := ret) hy ?_ ?_
  · intro args s m h hn
    obtain ⟨meth, c, h1, h2, h3, h4, h5, h6, -, -⟩ := Cond.code_spec hn (atoms_spec (ws := ws) h _ (by rw [hw]; exact List.mem_cons_self))
    exact ⟨meth, c, h1, h2, h3, h4, h5, h6⟩
  · intro p e s m args below meth c s₁ B hml hP _
    have hh0 : s₁.heap = s.heap := by rw [B.state]; rfl
    obtain ⟨t, a1, o, b1, b2, b3⟩ := body p e s m args below meth c s₁ B hml hP s₁ hh0 (Stand.of_body B)
    exact ⟨t, o, a1, b1, b2, ⟨b3.1, b3.2⟩⟩
theorem mi_inF {y : MethodName} {cc : ByteArray} {maxL : Nat} {ret : Option FieldType} {rm : Room} {G : gp_} {N : Nat} {ad : Nat → Nat} {ce : Nat → (Int → Int) → va_E} {av : List Value} {μ μ' : mu_T} {a : Int} {own : String} {lv : List (Nat × Value)} (hy : Jvm.plainFor y = true) (hown : y.cls = own) (hlv : lv_args 0 av = lv) (hn : (lg_sl av).length ≤ maxL) (body : ∀ X : ct_, cx_ G X cc own rm ret maxL → ei_ G X N ad ce a μ' rm → wx_ G X N ad ce μ 0 0 0 lv []) : mi_ y cc maxL ret rm G N ad ce av μ a μ' := by
  intro l sz
  refine ofWF_ (cc := cc) (maxL := maxL) (ret := ret) hy rfl ?_
  intro p9 e s m args below meth c s₁ B hml hv
  obtain ⟨rfl, hsz, hP, hK, hD0, hbs, hg⟩ := hv
  subst hsz
  have hts := atoms_spec (ws := Cond.code y cc maxL ret :: gT_) B.pre
  have hfc : s.vm.findClass y.cls = some m.cls := findClass_of_methodNamed B.named
  rw [lg_entry_eq]
  have hl := lv_entry av hn
  rw [hlv] at hl
  have hAb : ∀ x, va_A (wl_ N ad ce μ) s.heap.size x → G.2.2 ≤ x := fun x h => by
    rcases h with ⟨k, e, h⟩ | h
    · exact hD0.2 k _ h
    · exact Nat.le_trans hbs h
  exact body (p9, l, e, (headSpec (Cond.code y cc maxL ret :: gT_) rm).room, s, m, av.toArray, below, meth, c, _, va_A (wl_ N ad ce μ) s.heap.size, maxL)
    ⟨B.exec, B.bytes, fun w hw => hts w (List.mem_cons_of_mem _ hw), hown ▸ hfc, hK, fun q h => Or.inr h, hml, B.notSynchronized, hAb, rfl, B.returns, hg, rfl⟩ rfl s.heap [] _ hP (hD0.self (sz := s.heap.size)) va_S.rf hl
def qr_ (G : gp_) (N : Nat) (ad : Nat → Nat) (ce : Nat → (Int → Int) → va_E) (A : Nat → Prop) (o : Nat) (μ : mu_T) : Array Value → State → Outcome → State → Prop := va_Qr (fun (_ : Unit) => True) (fun _ b t => b = ad o ∧ po_ G N ad ce A μ t) A
def mr_ (y : MethodName) (cc : ByteArray) (maxL : Nat) (ret : Option FieldType) (rm : Room) (G : gp_) (N : Nat) (ad : Nat → Nat) (ce : Nat → (Int → Int) → va_E) (av : List Value) (μ : mu_T) (o : Nat) : Prop := ∀ (l : Launch) (sz : Nat), Met l y (Cond.code y cc maxL ret :: gT_) rm (va_Pc av (pr_ G N ad ce μ sz)) (qr_ G N ad ce (va_A (wl_ N ad ce μ) sz) o μ) rm.cells rm.slots (va_A (wl_ N ad ce μ) sz)
def er_ (G : gp_) (X : ct_) (N : Nat) (ad : Nat → Nat) (ce : Nat → (Int → Int) → va_E) (o : Nat) (μ : mu_T) (rm : Room) : Prop := match X with
  | (_, _, _, _, s, _, args, below, _, _, Q, A, _) => Q = MQ below (qr_ G N ad ce A o μ) args s rm.cells rm.slots A
theorem mr_in {y : MethodName} {cc : ByteArray} {maxL : Nat} {ret : Option FieldType} {rm : Room} {G : gp_} {N : Nat} {ad : Nat → Nat} {ce : Nat → (Int → Int) → va_E} {av : List Value} {μ : mu_T} {o : Nat} {own : String} {lv : List (Nat × Value)} (hy : plainName y.cls = true) (hown : y.cls = own) (hlv : lv_args 0 av = lv) (hn : (lg_sl av).length ≤ maxL) (body : ∀ X : ct_, cx_ G X cc own rm ret maxL → er_ G X N ad ce o μ rm → wx_ G X N ad ce μ 0 0 0 lv []) : mr_ y cc maxL ret rm G N ad ce av μ o := by
  intro l sz
  refine Met.ofW (cc := cc) (maxL := maxL) (ret := ret) hy rfl ?_
  intro p9 e s m args below meth c s₁ B hml hv
  obtain ⟨rfl, hsz, hP, hK, hD0, hbs, hg⟩ := hv
  subst hsz
  have hts := atoms_spec (ws := Cond.code y cc maxL ret :: gT_) B.pre
  have hfc : s.vm.findClass y.cls = some m.cls := findClass_of_methodNamed B.named
  rw [lg_entry_eq]
  have hl := lv_entry av hn
  rw [hlv] at hl
  have hAb : ∀ x, va_A (wl_ N ad ce μ) s.heap.size x → G.2.2 ≤ x := fun x h => by
    rcases h with ⟨k, e, h⟩ | h
    · exact hD0.2 k _ h
    · exact Nat.le_trans hbs h
  exact body (p9, l, e, (headSpec (Cond.code y cc maxL ret :: gT_) rm).room, s, m, av.toArray, below, meth, c, _, va_A (wl_ N ad ce μ) s.heap.size, maxL)
    ⟨B.exec, B.bytes, fun w hw => hts w (List.mem_cons_of_mem _ hw), hown ▸ hfc, hK, fun q h => Or.inr h, hml, B.notSynchronized, hAb, rfl, B.returns, hg, rfl⟩ rfl s.heap [] _ hP (hD0.self (sz := s.heap.size)) va_S.rf hl
section XR
variable {G : gp_} {X : ct_} {N : Nat} {ad : Nat → Nat} {ce : Nat → (Int → Int) → va_E} {μ : mu_T} {k n pc : Nat} {lv lv1 : List (Nat × Value)} {st stk : List Value} {cc : ByteArray} {own : String} {rm : Room} {ret : Option FieldType} {nl : Nat} {α : Type} {r : α}
theorem xx_aretp (C : cx_ G X cc own rm ret nl) {cn : String} {e0 a : Int} (E : er_ G X N ad ce (12 * (a.toNat + 1) + 0) μ rm) (hr : ret = some (.object cn)) (hk : k ≤ rm.cells ∧ n ≤ rm.slots) (d : decode cc pc = .ok (.areturn, 1)) (h : some e0 = some a) : wx_ G X N ad ce μ k n pc lv [.ref (ad (12 * (e0.toNat + 1) + 0))] := by
  obtain ⟨p9, l, e, R, s, m, args, below, meth, c, Q, A, nL⟩ := X
  intro H locs ls hP hD hS hl
  obtain rfl := Option.some.inj h
  obtain ⟨hx, hb, -, -, hK, -, -, hlocks, -, -, hrt, -, -⟩ := C
  subst hr
  rw [show Q = _ from E]
  refine W.widen hk.1 hk.2 ?_
  exact W.aret hx hb hrt (Or.inl ⟨_, rfl⟩) (Or.inr ⟨_, rfl⟩) (fun t ht hW => ⟨⟨(), _, rfl, trivial, rfl, by rw [ht]; exact hP, va_K.moved hW.alike hK, hD⟩, hS.F ht⟩) hS.2.2 d hlocks
theorem xx_cVrp (C : cx_ G X cc own rm ret nl) (p1 : Nat) (hp : pc + 3 = p1) {F : Option Int} {f : Int → Option α} {y : MethodName} {bytes : ByteArray} {maxL nA index : Nat} {ret2 : Option FieldType} {rm2 : Room} {As : List Value} {ci o : Nat} {fs : List Value} {qc : vw_C} (ho : o < N) (he : ce o (μ o) = .inr (ci, fs)) (hc : vwCl[ci]? = some qc) (hcl : qc.1 = y.cls) (hca : ca_ y bytes maxL ret2 nA) (hcv : cv_ y) (m1 : Cond.methodLink own index y ∈ gT_) (hn : As.length = nA) (hR : rm2.frames + 1 ≤ rm.frames ∧ 8 + (maxL + 11) + rm2.locals ≤ rm.locals) (hf : k + rm2.cells ≤ rm.cells ∧ n + rm2.slots ≤ rm.slots) (hW : (st.map fun v => v.category).sum ≤ 8) (d : decode cc pc = .ok (.invokevirtual index, 3)) (hM : ∀ a, F = some a → mr_ y bytes maxL ret2 rm2 G N ad ce (.ref (ad o) :: As) μ (12 * (a.toNat + 1) + 0)) (h : bd_ F (fun a => gd_ (0 ≤ a ∧ a < 9) (f a)) = some r) (kk : ∀ a : Int, (0 ≤ a ∧ a < 9) → f a = some r → wx_ G X N ad ce μ (k + rm2.cells) (n + rm2.slots) p1 lv (.ref (ad (12 * (a.toNat + 1) + 0)) :: st)) (hst : stk = As.reverse ++ .ref (ad o) :: st) : wx_ G X N ad ce μ k n pc lv stk := by
  obtain ⟨p, l, e, R, s, m, args, below, meth, c, Q, A, nL⟩ := X
  intro H locs ls hP hD hS hl
  subst hp
  have hts := C.2.2.1
  have hK := C.2.2.2.2.1
  have hA := C.2.2.2.2.2.1
  have hAb := C.2.2.2.2.2.2.2.2.1
  have hR' : R = rm := C.2.2.2.2.2.2.2.2.2.1
  have hg := C.2.2.2.2.2.2.2.2.2.2.2.1
  subst hR'
  have hsz : G.2.2 ≤ H.size := by
    have h1 := hAb s.heap.size (hA _ (Nat.le_refl _))
    exact Nat.le_trans h1 hS.1
  have hDb : va_D (fun q => G.2.2 ≤ q) (wl_ N ad ce μ) := hD.weaken (fun _ q _ h => hAb q.1 h)
  have hgH : gk_ G s H := gk_kept hg (fun a h1 h2 => hS.2.1 a h1 (fun q => h2 (hAb a q)))
  have hF : ∀ q, va_A (wl_ N ad ce μ) H.size q → A q := fun q h => by
    rcases h with ⟨j, e9, h⟩ | h
    · exact hD.2 j _ h
    · exact hA q (Nat.le_trans hS.1 h)
  have hpre : ∀ U : State, U.heap = H → s.WarmedH U.vm → pr_ G N ad ce μ H.size U := fun U hU hW9 => ⟨by rw [hU], by rw [hU]; exact hP, va_K.moved hW9.alike hK, hDb, hsz, by rw [hU]; exact gk_warm hW9 hgH⟩
  subst hst
  obtain ⟨a9, e9, h⟩ := bd_e h
  have hM9 := hM a9 e9 l H.size
  have hpreV : ∀ U : State, U.heap = H → s.WarmedH U.vm → va_Pc (.ref (ad o) :: As) (pr_ G N ad ce μ H.size) (Value.ref (ad o) :: As).toArray U := fun U hU hW9 => ⟨rfl, hpre U hU hW9⟩
  by_cases h9 : 0 ≤ a9 ∧ a9 < 9
  · rw [show gd_ (0 ≤ a9 ∧ a9 < 9) (f a9) = f a9 from if_pos h9] at h
    refine va_callr (va_runV (rest := st) ⟨C.1, C.2.1, C.2.2.2.2.2.2.1, C.2.2.2.1, hts⟩ hM9 ⟨callB_of nA hts (gT_in hca.2.1) rfl rfl rfl (hts _ hca.1) (hts _ m1) hca.2.2 hR, hts _ hcv.1, hts _ hcv.2⟩ ⟨(fun a U g mk q => by obtain ⟨q0, q1, qP, qK, qD, q2, q3⟩ := q; exact ⟨q0, q1, qP, va_K.moved (u := U) (U := U.calling g mk a) (Vm.Alike.refl U.vm) qK, qD, q2, gk_same (u := U) (U := U.calling g mk a) rfl q3⟩), (by have h9 := va_recv hK hP hc ((wl_get ho).trans (by rw [he])); rw [hcl] at h9; exact h9), hpreV⟩ rfl hn hl.1 rfl (lv_room hW) d hf) hS (fun q _ h => hF q h) hF (fun u ra t H1 locs1 ht hvm hw hB hz1 hk1 hS1 => ?_)
    obtain ⟨hra, hP1, hK1, hD1⟩ := hB
    rw [ht] at hP1
    rw [hra]
    exact kk a9 h9 h H1 locs1 ls hP1 (hD1.weaken (fun _ q _ h => hF q.1 h)) hS1 hl
  · rw [show gd_ (0 ≤ a9 ∧ a9 < 9) (f a9) = none from if_neg h9] at h
    exact nn_ h
end XR
