/-! the growth of a row of bytes, general rows (written by wip/gen/rows5.py) -/
theorem mq_in {y : MethodName} {cc : ByteArray} {maxL : Nat} {ret : Option FieldType} {rm : Room} {G : gp_} {N : Nat} {ad : Nat → Nat} {ce : Nat → (Int → Int) → va_E} {av : List Value} {μ : mu_T} {Qc : (Nat → Prop) → Array Value → State → Outcome → State → Prop} {own : String} {lv : List (Nat × Value)} (hy : plainName y.cls = true) (hown : y.cls = own) (hlv : lv_args 0 av = lv) (hn : (lg_sl av).length ≤ maxL) (body : ∀ X : ct_, cx_ G X cc own rm ret maxL → eg_ X rm Qc → wx_ G X N ad ce μ 0 0 0 lv []) (l : Launch) (sz : Nat) : Met l y (Cond.code y cc maxL ret :: gT_) rm (va_Pc av (pr_ G N ad ce μ sz)) (Qc (va_A (wl_ N ad ce μ) sz)) rm.cells rm.slots (va_A (wl_ N ad ce μ) sz) := by
  refine Met.ofW (cc := cc) (maxL := maxL) (ret := ret) hy rfl ?_
  intro p9 e s m args below meth c s₁ B hml hv
  obtain ⟨rfl, hsz, hP, hK, hD0, hbs, hg⟩ := hv
  subst hsz
  have hts := atoms_spec (ws := Cond.code y cc maxL ret :: gT_) B.pre
  have hfc : s.vm.findClass y.cls = some m.cls := findClass_of_methodNamed B.named
  rw [lg_entry_eq]
  have hl := lv_entry av hn
  rw [hlv] at hl
  have hAb : ∀ x, va_A (wl_ N ad ce μ) s.heap.size x → G.2.2 ≤ x := fun x h => by
    rcases h with ⟨k, e, h⟩ | h
    · exact hD0.2 k _ h
    · exact Nat.le_trans hbs h
  exact body (p9, l, e, (headSpec (Cond.code y cc maxL ret :: gT_) rm).room, s, m, av.toArray, below, meth, c, _, va_A (wl_ N ad ce μ) s.heap.size, maxL)
    ⟨B.exec, B.bytes, fun w hw => hts w (List.mem_cons_of_mem _ hw), hown ▸ hfc, hK, fun q h => Or.inr h, hml, B.notSynchronized, hAb, rfl, B.returns, hg, rfl⟩ rfl s.heap [] _ hP (hD0.self (sz := s.heap.size)) va_S.rf hl
/-- the new row of bytes: e bytes, the old ones first -/
def gx_ (μ : mu_T) (b : Nat) (e : Int) : Int → Int := fun j => if j = -1 then e else if 0 ≤ j ∧ j < bl_ μ b then μ b j else 0
def gw_ {α : Type} (μ : mu_T) (b : Nat) (e : Int) (f : mu_T → Option α) : Option α := if (bl_ μ b < e ∧ e ≤ 70) ∧ (List.range (bl_ μ b).toNat).all (fun i => decide (-128 ≤ μ b (i : Nat)) && decide (μ b (i : Nat) ≤ 127)) = true then f (um_ μ b (gx_ μ b e)) else none
/-- one cell more, behind a world of 151 -/
def a9_ (ad : Nat → Nat) (x : Nat) : Nat → Nat := fun k => bif Nat.beq k 151 then x else ad k
def c9_ (G : gp_) (ce : Nat → (Int → Int) → va_E) : Nat → (Int → Int) → va_E := fun k row => bif Nat.beq k 151 then .inl (G.1.1 101, (row (-1)).toNat, .inl (fun j => iI (row (j : Nat)))) else ce k row
theorem beq9 {a b : Nat} (h : a ≠ b) : Nat.beq a b = false := by
  cases e : Nat.beq a b with
  | false => rfl
  | true => exact absurd (Nat.eq_of_beq_eq_true e) h
theorem a9_ne {ad : Nat → Nat} {x k : Nat} (h : k ≠ 151) : a9_ ad x k = ad k := by unfold a9_; rw [beq9 h]; rfl
theorem c9_ne {G : gp_} {ce : Nat → (Int → Int) → va_E} {k : Nat} {row : Int → Int} (h : k ≠ 151) : c9_ G ce k row = ce k row := by unfold c9_; rw [beq9 h]; rfl
theorem wl_9 {G : gp_} {ad : Nat → Nat} {ce : Nat → (Int → Int) → va_E} {μ : mu_T} {x : Nat} (g : Int → Int) : wl_ 151 ad ce μ ++ [(x, .inl (G.1.1 101, (g (-1)).toNat, .inl (fun j => iI (g (j : Nat)))))] = wl_ 152 (a9_ ad x) (c9_ G ce) (um_ μ 151 g) := by
  apply List.ext_getElem?
  intro i
  have hlen : (wl_ 151 ad ce μ).length = 151 := by unfold wl_; rw [List.length_map, List.length_range]
  by_cases h : i < 151
  · rw [List.getElem?_append_left (by rw [hlen]; exact h), wl_get h, wl_get (show i < 152 by omega), a9_ne (by omega), c9_ne (by omega), um_ne (by omega)]
  · by_cases h2 : i = 151
    · subst h2
      rw [List.getElem?_append_right (by rw [hlen]; exact Nat.le_refl _), wl_get (show 151 < 152 by omega), um_self, hlen]
      rfl
    · rw [List.getElem?_eq_none (by rw [List.length_append, hlen]; show 151 + 1 ≤ i; omega), List.getElem?_eq_none (by unfold wl_; rw [List.length_map, List.length_range]; omega)]
section XB
variable {G : gp_} {X : ct_} {N : Nat} {ad : Nat → Nat} {ce : Nat → (Int → Int) → va_E} {μ : mu_T} {k n pc : Nat} {lv lv1 : List (Nat × Value)} {st stk : List Value} {cc : ByteArray} {own : String} {rm : Room} {ret : Option FieldType} {nl : Nat} {α : Type} {r : α}
theorem xx_newb (C : cx_ G X cc own rm ret nl) (p1 : Nat) (hp : pc + 2 = p1) {e : Int} (h0 : 0 ≤ e) (h1 : e ≤ 70) (harr : Cond.arrayClass .byte ∈ gT_) (hc : k + 1 ≤ rm.cells ∧ n + e.toNat ≤ rm.slots) (d : decode cc pc = .ok (.newarray .byte, 2)) (kk : ∀ x, wx_ G X 152 (a9_ ad x) (c9_ G ce) (um_ μ 151 (fun j => if j = -1 then e else 0)) (k + 1) (n + e.toNat) p1 lv (.ref x :: st)) : wx_ G X 151 ad ce μ k n pc lv (.int (iI e) :: st) := by
  obtain ⟨p, l, e9, R, s, m, args, below, meth, c, Q, A, nL⟩ := X
  intro H locs ls hP hD hS hl
  subst hp
  have hR' : R = rm := C.2.2.2.2.2.2.2.2.2.1
  have hK := C.2.2.2.2.1
  refine va_newa (atype := .byte) (ty := .byte) C.1 C.2.1 (C.2.2.1 _ harr) rfl hK hP hD hS C.2.2.2.2.2.1 (N' := e.toNat) (a0 := (e.toNat, .inl (fun _ => iI 0))) (fun cA => rfl) ?_ (iI_clamp (by omega)) (by show e.toNat * 1 ≤ _; omega) (by rw [hR']; exact hc.1) (by rw [hR']; exact hc.2) d (fun x cA H1 hK1 hP1 hD1 hS1 => ?_)
  · intro h
    have := (iI_lt (a := e) (b := 0) (by omega) (by decide)).mp h
    omega
  · have e1 : s.vm.findClass ("[" ++ (FieldType.byte).toString) = some (G.1.1 101) := (hK.2 1 _ rfl).2
    have e2 : s.vm.findClass ("[" ++ (FieldType.byte).toString) = some cA := (hK1.2 5 _ rfl).2
    have e3 : cA = G.1.1 101 := Option.some.inj (e2.symm.trans e1)
    subst e3
    have e4 := wl_9 (G := G) (ad := ad) (ce := ce) (μ := μ) (x := x) (fun j => if j = -1 then e else 0)
    have e5 : (fun j : Nat => iI ((fun j : Int => if j = -1 then e else 0) (j : Int))) = fun _ => iI 0 := by
      funext j
      show iI (if (j : Int) = -1 then e else 0) = iI 0
      rw [if_neg (by omega)]
    rw [e5] at e4
    rw [if_pos (rfl : (-1 : Int) = -1)] at e4
    rw [e4] at hP1 hD1
    exact kk x H1 locs ls hP1 hD1 hS1 hl
theorem xx_bcopy (C : cx_ G X cc own rm ret nl) (p1 : Nat) (hp : pc + 3 = p1) {q1 q2 index : Nat} {len : Int} (hq1 : q1 < N) (he1 : ∀ row, ce q1 row = .inl (G.1.1 101, (row (-1)).toNat, .inl (fun j => iI (row (j : Nat))))) (hq2 : q2 < N) (he2 : ∀ row, ce q2 row = .inl (G.1.1 101, (row (-1)).toNat, .inl (fun j => iI (row (j : Nat))))) (g0 : 0 ≤ len) (g1 : len ≤ bl_ μ q1) (g2 : len ≤ bl_ μ q2) (g3 : len < 2147483648) (hy : ∀ j : Nat, (j : Int) < len → -128 ≤ μ q1 j ∧ μ q1 j ≤ 127) (hw : Cond.methodLink own index arraycopyName ∈ gT_ ∧ Cond.native arraycopyName ∈ gT_ ∧ Cond.static arraycopyName ∈ gT_ ∧ Cond.initialized "java/lang/System" ∈ gT_) (hR : 1 ≤ rm.frames ∧ (st.map fun v => v.category).sum + (nativeFrameWords "java/lang/System" "arraycopy" 5 + 11) ≤ rm.locals) (d : decode cc pc = .ok (.invokestatic index, 3)) (kk : wx_ G X N ad ce (um_ μ q2 (fun j => if 0 ≤ j ∧ j < len then μ q1 j else μ q2 j)) k n p1 lv st) : wx_ G X N ad ce μ k n pc lv (.int (iI len) :: .int (iI 0) :: .ref (ad q2) :: .int (iI 0) :: .ref (ad q1) :: st) := by
  obtain ⟨p, l, e, R, s, m, args, below, meth, c, Q, A, nL⟩ := X
  intro H locs ls hP hD hS hl
  subst hp
  have hR' : R = rm := C.2.2.2.2.2.2.2.2.2.1
  have z0 : ∀ {z : Int}, 0 ≤ z → z ≤ 2147483647 → ¬ iI z < 0 := fun {z} h1 h2 q => by
    have := (iI_lt (a := z) (b := 0) (by omega) (by decide)).mp q
    omega
  have c1 : (iI 0).toNatClampNeg = 0 := rfl
  have c3 : (iI len).toNatClampNeg = len.toNat := iI_clamp (by omega)
  unfold bl_ at g1 g2
  refine va_copyi C.1 C.2.1 (C.2.2.2.2.2.2.1.trans hl.1.symm) C.2.2.2.1 (C.2.2.1 _ hw.1) (C.2.2.1 _ hw.2.1) (C.2.2.1 _ hw.2.2.1) (C.2.2.1 _ hw.2.2.2) C.2.2.2.2.1 hP hD hS q1 q2 1 1 ((wl_get hq1).trans (by rw [he1])) ((wl_get hq2).trans (by rw [he2])) rfl rfl rfl (z0 (by omega) (by omega)) (z0 (by omega) (by omega)) (z0 g0 (by omega)) (by rw [c1, c3]; omega) (by rw [c1, c3]; omega) (fun i hi => ?_) (by rw [hR']; exact hR.1) (by rw [hR']; exact hR.2) d (fun H1 locs1 hP1 hD1 hS1 => ?_)
  · rw [c3] at hi
    rw [c1, Nat.zero_add]
    have h9 := hy i (by omega)
    have h8 : iI (-128) ≤ iI (μ q1 (i : Int)) := (iI_le (by decide) (by omega)).mpr h9.1
    have h7 : iI (μ q1 (i : Int)) ≤ iI 127 := (iI_le (by omega) (by decide)).mpr h9.2
    show (decide (iI (-128) ≤ iI (μ q1 (i : Int))) && decide (iI (μ q1 (i : Int)) ≤ iI 127)) = true
    rw [Bool.and_eq_true, decide_eq_true_eq, decide_eq_true_eq]
    exact ⟨h8, h7⟩
  · have e1 : va_cpy (fun j : Nat => iI (μ q1 (j : Int))) (fun j : Nat => iI (μ q2 (j : Int))) (iI 0).toNatClampNeg (iI 0).toNatClampNeg (iI len).toNatClampNeg = fun j : Nat => iI ((fun j : Int => if 0 ≤ j ∧ j < len then μ q1 j else μ q2 j) (j : Int)) := by
      funext j
      rw [c1, c3]
      unfold va_cpy
      by_cases hj : 0 ≤ j ∧ j < 0 + len.toNat
      · rw [if_pos hj]
        show iI (μ q1 _) = iI (if _ then _ else _)
        rw [if_pos (by omega)]
        congr 2
        omega
      · rw [if_neg hj]
        show iI (μ q2 _) = iI (if _ then _ else _)
        rw [if_neg (by omega)]
    have e2 : (μ q2 (-1)) = (fun j : Int => if 0 ≤ j ∧ j < len then μ q1 j else μ q2 j) (-1) := by
      show _ = if (0 : Int) ≤ -1 ∧ _ then _ else _
      rw [if_neg (by omega)]
    rw [e1, e2, ← he2 (fun j : Int => if 0 ≤ j ∧ j < len then μ q1 j else μ q2 j), wl_set] at hP1 hD1
    exact kk H1 locs1 ls hP1 hD1 hS1 hl
/-- the ordinal of a kind out of a row that may hold null -/
theorem xx_cOip (C : cx_ G X cc own rm ret nl) (p1 : Nat) (hp : pc + 3 = p1) {F : Option Int} {f : Int → Option α} {x y : MethodName} {bytes : ByteArray} {maxL index : Nat} {ret2 : Option FieldType} {rm2 : Room} {z : Int} (hy : y = ⟨y.cls, x.name, x.desc⟩) (hcl : x.cls = "UrnHeap$Kind") (hca : ca_ y bytes maxL ret2 0) (hcu : Cond.sameMethod x.cls y.cls x.name x.desc ∈ gT_ ∧ Cond.instanceMethod y ∈ gT_ ∧ Cond.selects "UrnHeap$Kind" x y ∈ gT_) (m1 : Cond.methodLink own index x ∈ gT_) (hR : rm2.frames + 1 ≤ rm.frames ∧ 8 + (maxL + 11) + rm2.locals ≤ rm.locals) (hf : k + rm2.cells ≤ rm.cells ∧ n + rm2.slots ≤ rm.slots) (hW : (st.map fun v => v.category).sum ≤ 8) (d : decode cc pc = .ok (.invokevirtual index, 3)) (hM : ∀ a, F = some a → mi_ y bytes maxL ret2 rm2 G N ad ce [.ref (G.2.1 (100 + (z : Int).toNat))] μ a μ) (h : gd_ (0 ≤ z ∧ z < 10) (bd_ F f) = some r) (kk : ∀ a, f a = some r → wx_ G X N ad ce μ (k + rm2.cells) (n + rm2.slots) p1 lv (.int (iI a) :: st)) : wx_ G X N ad ce μ k n pc lv (va_rf (kv_ G z) :: st) := by
  obtain ⟨p, l, e, R, s, m, args, below, meth, c, Q, A, nL⟩ := X
  intro H locs ls hP hD hS hl
  subst hp
  obtain ⟨⟨hz0, hz1⟩, h⟩ := ck_e h
  have hkv : va_rf (kv_ G z) = .ref (G.2.1 (100 + (z : Int).toNat)) := by unfold kv_; rw [if_neg (by omega)]; rfl
  rw [hkv]
  have hts := C.2.2.1
  have hK := C.2.2.2.2.1
  have hA := C.2.2.2.2.2.1
  have hAb := C.2.2.2.2.2.2.2.2.1
  have hR' : R = rm := C.2.2.2.2.2.2.2.2.2.1
  have hg := C.2.2.2.2.2.2.2.2.2.2.2.1
  subst hR'
  have hsz : G.2.2 ≤ H.size := by
    have h1 := hAb s.heap.size (hA _ (Nat.le_refl _))
    exact Nat.le_trans h1 hS.1
  have hDb : va_D (fun q => G.2.2 ≤ q) (wl_ N ad ce μ) := hD.weaken (fun _ q _ h => hAb q.1 h)
  have hgH : gk_ G s H := gk_kept hg (fun a h1 h2 => hS.2.1 a h1 (fun q => h2 (hAb a q)))
  have hF : ∀ q, va_A (wl_ N ad ce μ) H.size q → A q := fun q h => by
    rcases h with ⟨j, e9, h⟩ | h
    · exact hD.2 j _ h
    · exact hA q (Nat.le_trans hS.1 h)
  have hpre : ∀ U : State, U.heap = H → s.WarmedH U.vm → pr_ G N ad ce μ H.size U := fun U hU hW9 => ⟨by rw [hU], by rw [hU]; exact hP, va_K.moved hW9.alike hK, hDb, hsz, by rw [hU]; exact gk_warm hW9 hgH⟩
  obtain ⟨a9, e9, h⟩ := bd_e h
  have hM9 := hM a9 e9 l H.size
  have hpreV : ∀ U : State, U.heap = H → s.WarmedH U.vm → va_Pc [.ref (G.2.1 (100 + (z : Int).toNat))] (pr_ G N ad ce μ H.size) [Value.ref (G.2.1 (100 + (z : Int).toNat))].toArray U := fun U hU hW9 => ⟨rfl, hpre U hU hW9⟩
  have hrv : ∃ cell : Cell, H[G.2.1 (100 + (z : Int).toNat)]? = some cell ∧ cell.vm.isStatics = false ∧ s.vm.findClass "UrnHeap$Kind" = some cell.cls := by
    obtain ⟨cell, q1, q2, q3, -⟩ := (hgH.2.1 z.toNat (by omega)).1
    exact ⟨cell, q1, q2, q3⟩
  refine va_calli (va_runU (C := "UrnHeap$Kind") (owner := y.cls) (As := []) (rest := st) ⟨C.1, C.2.1, C.2.2.2.2.2.2.1, C.2.2.2.1, hts⟩ hM9 ⟨⟨rfl, rfl, hR.1, hR.2, pay_in hts (gT_in hca.2.1), List.mem_cons_self⟩, hts _ hca.2.1, hts _ hca.1, ⟨hca.2.2.1, hca.2.2.2.1⟩, (fun sig h9 => by have h2 := hca.2.2.2.2; rw [hy] at h2; rw [h9] at h2; exact (Option.some.inj h2).symm), hts _ m1, hts _ hcu.1, (by rw [← hy]; exact va_Decl.of (hts _ hcu.2.1) (hts _ hca.2.1)), hts _ hcu.2.2, hts _ hcu.2.1⟩ ⟨(fun a U g mk q => by obtain ⟨q0, q1, qP, qK, qD, q2, q3⟩ := q; exact ⟨q0, q1, qP, va_K.moved (u := U) (U := U.calling g mk a) (Vm.Alike.refl U.vm) qK, qD, q2, gk_same (u := U) (U := U.calling g mk a) rfl q3⟩), hrv, hpreV⟩ rfl rfl hl.1 rfl (lv_room hW) d hf) hS (fun q _ h => hF q h) hF (fun r9 u t H1 locs1 ht hvm hw hB hz9 hk1 hS1 => ?_)
  obtain ⟨hP1, hK1, hD1⟩ := hB
  rw [ht] at hP1
  rw [hw]
  exact kk a9 h H1 locs1 ls hP1 (hD1.weaken (fun _ q _ h => hF q.1 h)) hS1 hl
end XB
