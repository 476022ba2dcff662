/-! the bundle of a walk, contracts, and a row for each instruction over a world of N cells -/
abbrev gp_ : Type := va_G × (Nat → Nat) × Nat
abbrev ct_ : Type := Program × Launch × Env × Room × State × MethodId × Array Value × List Frame × Method × Code × (State → Prop) × (Nat → Prop) × Nat
/-- two words more, of private methods of the superclass: shown at the start out of the tables' own -/
def gX9_ : List Cond := [Cond.selects "java/lang/StringBuilder" yJ5_ensureCapacityInternal_d00df yJ5_ensureCapacityInternal_d00df, Cond.selects "java/lang/StringBuilder" yJ5_newCapacity_0f7a4 yJ5_newCapacity_0f7a4, Cond.selects "java/lang/StringBuilder" yJ5_inflateIfNeededFor_a7421 yJ5_inflateIfNeededFor_a7421, Cond.selects "java/lang/StringBuilder" yJ5_putStringAt_47b60 yJ5_putStringAt_47b60]
def gT_ : List Cond := lw_tbl.filter goodWord ++ gX9_
theorem gX9_good : ∀ w ∈ gX9_, goodWord w = true := by
  intro w hw
  have h : gX9_.all goodWord = true := by decide +kernel
  exact List.all_eq_true.mp h w hw
theorem gx_e : Cond.selects "java/lang/StringBuilder" yJ5_ensureCapacityInternal_d00df yJ5_ensureCapacityInternal_d00df ∈ gT_ := List.mem_append_right _ List.mem_cons_self
theorem gx_n : Cond.selects "java/lang/StringBuilder" yJ5_newCapacity_0f7a4 yJ5_newCapacity_0f7a4 ∈ gT_ := List.mem_append_right _ (List.mem_cons_of_mem _ List.mem_cons_self)
theorem gx_i : Cond.selects "java/lang/StringBuilder" yJ5_inflateIfNeededFor_a7421 yJ5_inflateIfNeededFor_a7421 ∈ gT_ := List.mem_append_right _ (List.mem_cons_of_mem _ (List.mem_cons_of_mem _ List.mem_cons_self))
theorem gx_p : Cond.selects "java/lang/StringBuilder" yJ5_putStringAt_47b60 yJ5_putStringAt_47b60 ∈ gT_ := List.mem_append_right _ (List.mem_cons_of_mem _ (List.mem_cons_of_mem _ (List.mem_cons_of_mem _ List.mem_cons_self)))
theorem gm_ (i : Nat) {w : Cond} (h : (decide (lw_tbl[i]? = some w) && goodWord w) = true) : w ∈ gT_ := by
  simp only [Bool.and_eq_true, decide_eq_true_eq] at h
  exact List.mem_append_left _ (List.mem_filter.mpr ⟨List.mem_of_getElem? h.1, h.2⟩)
theorem gl_ {ws : List Cond} (h : ws.all (fun w => decide (w ∈ lw_tbl) && goodWord w) = true) : ∀ w ∈ ws, w ∈ gT_ := fun w hw => by
  have h1 := List.all_eq_true.mp h w hw
  simp only [Bool.and_eq_true, decide_eq_true_eq] at h1
  exact List.mem_append_left _ (List.mem_filter.mpr ⟨h1.1, h1.2⟩)
theorem gT_tbl {w : Cond} (h : w ∈ gT_) : w ∈ lw_tbl ∨ w ∈ gX9_ := (List.mem_append.mp h).imp (fun h => (List.mem_filter.mp h).1) id
theorem gT_good {w : Cond} (h : w ∈ gT_) : (w.onTables && w.keeps) = true ∨ ∃ ty, w = .arrayClass ty := by
  rcases List.mem_append.mp h with h | h
  · exact good_of_word (List.mem_filter.mp h).2
  · exact good_of_word (gX9_good _ h)
def tys_ (D : va_G) : List (ClassId × FieldType) := [(D.1 100, .int), (D.1 101, .byte), (D.1 102, .object "UrnHeap$Heap"), (D.1 103, .object "UrnHeap$Kind"), (D.1 104, .long)]
/-- the String constants: the forms of the orders, then the law's words -/
def skl_ : List (List Int) := [[117, 114, 110], [117, 114, 110, 33], [116, 105, 101, 32, 35, 46, 36, 61, 35], [117, 110, 116, 105, 101, 32, 35, 46, 36], [110, 97, 109, 101, 32, 64, 61, 35], [100, 114, 111, 112, 32, 64], [119, 101, 97, 107, 32, 35, 61, 35], [114, 111, 117, 110, 100], [115, 116, 101, 112, 32, 35], [114, 105, 116, 101], [116, 105, 101, 32], [46], [61], [59, 115, 116, 101, 112, 32, 52], [59, 117, 114, 110, 33], [59]]
def swl_ : List (Nat × String) := [(105, "tie "), (113, "."), (115, "="), (117, ";step 4"), (119, ";urn!"), (121, ";")]
def nwl_ : List (String × Nat × MethodName) := [("UrnHeap$Heap", 35, ⟨"UrnHeap$Row", "<init>", "()V"⟩), ("UrnHeap", 12, ⟨"UrnHeap$Refusals", "<init>", "()V"⟩), ("UrnHeap", 57, ⟨"UrnHeap$Orders", "<init>", "()V"⟩), ("UrnHeap", 64, ⟨"UrnHeap$Line", "<init>", "()V"⟩), ("UrnHeap$Hands", 58, ⟨"UrnHeap", "isSlot", "(I)Z"⟩), ("UrnHeap$Heap", 88, ⟨"UrnHeap", "isCell", "(I)Z"⟩), ("UrnHeap$Heap", 91, ⟨"UrnHeap", "isSlot", "(I)Z"⟩), ("UrnHeap$Hands", 77, ⟨"UrnHeap", "isName", "(I)Z"⟩), ("UrnHeap$Sexton", 60, ⟨"UrnHeap", "isCell", "(I)Z"⟩), ("UrnHeap$Paths", 83, ⟨"UrnHeap", "isCell", "(I)Z"⟩)]
/-- a static of which only that it is a reference or null is told -/
def gz_ (G : gp_) : Option Nat := if G.2.1 6 = 0 then some (G.2.1 5) else none
/-- what no cell of the world is, and nobody writes: by the state U, with the heap H -/
def gkS_ (G : gp_) (U : State) (H : Heap) : Prop := ∀ i : Nat, i < 16 → vk_S 1 [(skl_.getD i []).length] [(skl_.getD i []).map iI] (fun _ => G.2.1 (200 + i)) (fun _ => G.2.1 (300 + i)) (fun q => G.2.2 ≤ q) U H
def gkE_ (G : gp_) (U : State) (H : Heap) : Prop := ∀ i : Nat, i < 10 → va_O "UrnHeap$Kind" (G.2.1 (100 + i)) (fun q => G.2.2 ≤ q) U H ∧ va_OF "java/lang/Enum" "ordinal" "I" (.int (iI i)) (G.2.1 (100 + i)) (fun q => G.2.2 ≤ q) U H ∧ va_OF "UrnHeap$Kind" "form" "Ljava/lang/String;" (.ref (G.2.1 (200 + i))) (G.2.1 (100 + i)) (fun q => G.2.2 ≤ q) U H
def gkZ_ (G : gp_) (U : State) (H : Heap) : Prop := va_Z "java/lang/String" "COMPACT_STRINGS" "Z" (.int (iI 1)) (fun q => G.2.2 ≤ q) U H ∧ va_Z "jdk/internal/util/Preconditions" "SIOOBE_FORMATTER" "Ljava/util/function/BiFunction;" (va_rf (gz_ G)) (fun q => G.2.2 ≤ q) U H ∧ va_Z "UrnHeap$Kind" "ALL" "[LUrnHeap$Kind;" (.ref (G.2.1 2)) (fun q => G.2.2 ≤ q) U H ∧ va_Z "UrnHeap$1" "$SwitchMap$UrnHeap$Kind" "[I" (.ref (G.2.1 1)) (fun q => G.2.2 ≤ q) U H ∧ va_Z "java/lang/Integer" "DigitOnes" "[B" (.ref (G.2.1 3)) (fun q => G.2.2 ≤ q) U H ∧ va_Z "java/lang/Integer" "DigitTens" "[B" (.ref (G.2.1 4)) (fun q => G.2.2 ≤ q) U H
def gkT_ (G : gp_) (U : State) (H : Heap) : Prop := va_T (.object "UrnHeap$Kind") (G.2.1 2) 10 (fun i => .ref (G.2.1 (100 + i))) (fun q => G.2.2 ≤ q) U H ∧ va_T .int (G.2.1 1) 10 (fun i => .int (iI ((i : Int) + 1))) (fun q => G.2.2 ≤ q) U H ∧ va_T .byte (G.2.1 3) 100 (fun i => .int (iI (48 + (i : Int) % 10))) (fun q => G.2.2 ≤ q) U H ∧ va_T .byte (G.2.1 4) 100 (fun i => .int (iI (48 + (i : Int) / 10))) (fun q => G.2.2 ≤ q) U H
def gkN_ (G : gp_) (U : State) : Prop := (∀ w ∈ nwl_, va_Nw (.methodLinkNest w.1 w.2.1 w.2.2 "UrnHeap") U) ∧ va_Nw (.fieldLinkNest "UrnHeap$Orders" 60 "UrnHeap$Kind" "ALL" "[LUrnHeap$Kind;" "UrnHeap") U ∧ (∀ (i : Nat) (w : Nat × String), swl_[i]? = some w → vk_R "UrnHeapLaw" w.1 w.2 (G.2.1 (210 + i)) U) ∧ va_AO "UrnHeap$Heap" U ∧ va_AO "UrnHeap$Kind" U ∧ va_Nw (.castable "[B" "java/lang/Cloneable") U
def gk_ (G : gp_) (U : State) (H : Heap) : Prop := gkS_ G U H ∧ gkE_ G U H ∧ gkZ_ G U H ∧ gkT_ G U H ∧ gkN_ G U
theorem gk_alike {G : gp_} {u U : State} {H : Heap} (hvm : u.vm.Alike U.vm) (hN : gkN_ G U) (h : gk_ G u H) : gk_ G U H :=
  ⟨fun i hi => vk_S.moved hvm (h.1 i hi), fun i hi => ⟨va_O.moved hvm (h.2.1 i hi).1, va_OF.moved hvm (h.2.1 i hi).2.1, va_OF.moved hvm (h.2.1 i hi).2.2⟩,
   ⟨va_Z.moved hvm h.2.2.1.1, va_Z.moved hvm h.2.2.1.2.1, va_Z.moved hvm h.2.2.1.2.2.1, va_Z.moved hvm h.2.2.1.2.2.2.1, va_Z.moved hvm h.2.2.1.2.2.2.2.1, va_Z.moved hvm h.2.2.1.2.2.2.2.2⟩,
   ⟨va_T.moved hvm h.2.2.2.1.1, va_T.moved hvm h.2.2.2.1.2.1, va_T.moved hvm h.2.2.2.1.2.2.1, va_T.moved hvm h.2.2.2.1.2.2.2⟩, hN⟩
theorem gk_warm {G : gp_} {u U : State} {H : Heap} (hW : u.WarmedH U.vm) (h : gk_ G u H) : gk_ G U H :=
  gk_alike hW.alike ⟨fun w hw => va_Nw.warmM hW (h.2.2.2.2.1 w hw), va_Nw.warmF hW h.2.2.2.2.2.1, fun i w hw => vk_R.warm hW (h.2.2.2.2.2.2.1 i w hw), va_AO.moved hW.alike h.2.2.2.2.2.2.2.1, va_AO.moved hW.alike h.2.2.2.2.2.2.2.2.1, va_Nw.warmC hW h.2.2.2.2.2.2.2.2.2⟩ h
theorem gk_same {G : gp_} {u U : State} {H : Heap} (hv : U.vm = u.vm) (h : gk_ G u H) : gk_ G U H :=
  gk_alike (by rw [hv]; exact Vm.Alike.refl _) ⟨fun w hw => va_Nw.same rfl hv.symm (h.2.2.2.2.1 w hw), va_Nw.same rfl hv.symm h.2.2.2.2.2.1, fun i w hw => vk_R.same hv (h.2.2.2.2.2.2.1 i w hw), va_AO.moved (by rw [hv]; exact Vm.Alike.refl _) h.2.2.2.2.2.2.2.1, va_AO.moved (by rw [hv]; exact Vm.Alike.refl _) h.2.2.2.2.2.2.2.2.1, va_Nw.same rfl hv.symm h.2.2.2.2.2.2.2.2.2⟩ h
theorem gk_kept {G : gp_} {U : State} {H H1 : Heap} (h : gk_ G U H) (hq : ∀ a : Nat, a < H.size → ¬ G.2.2 ≤ a → H1[a]? = H[a]?) : gk_ G U H1 :=
  ⟨fun i hi => vk_S.kept (h.1 i hi) hq, fun i hi => ⟨va_O.kept (h.2.1 i hi).1 hq, va_OF.kept (h.2.1 i hi).2.1 hq, va_OF.kept (h.2.1 i hi).2.2 hq⟩,
   ⟨va_Z.kept h.2.2.1.1 hq, va_Z.kept h.2.2.1.2.1 hq, va_Z.kept h.2.2.1.2.2.1 hq, va_Z.kept h.2.2.1.2.2.2.1 hq, va_Z.kept h.2.2.1.2.2.2.2.1 hq, va_Z.kept h.2.2.1.2.2.2.2.2 hq⟩,
   ⟨va_T.kept h.2.2.2.1.1 hq, va_T.kept h.2.2.2.1.2.1 hq, va_T.kept h.2.2.2.1.2.2.1 hq, va_T.kept h.2.2.2.1.2.2.2 hq⟩, h.2.2.2.2⟩
def cx_ (G : gp_) (X : ct_) (cc : ByteArray) (own : String) (rm : Room) (ret : Option FieldType) (nl : Nat) : Prop := match X with
  | (p, _, _, R, s, m, args, _, meth, c, _, A, nL) => p.tables.exec = Jvm.exec ∧ c.code = cc ∧ (∀ w ∈ gT_, w.before args s = true) ∧ s.vm.findClass own = some m.cls ∧ va_K G.1 vwCl (tys_ G.1) s ∧ (∀ q, s.heap.size ≤ q → A q) ∧ c.maxLocals = nL ∧ meth.locks = false ∧ (∀ q, A q → G.2.2 ≤ q) ∧ R = rm ∧ meth.sig.returnType = ret ∧ gk_ G s s.heap ∧ nL = nl
def wx_ (G : gp_) (X : ct_) (N : Nat) (ad : Nat → Nat) (ce : Nat → (Int → Int) → va_E) (μ : mu_T) (k n pc : Nat) (lv : List (Nat × Value)) (st : List Value) : Prop := match X with
  | (p, l, e, R, s, m, args, below, meth, c, Q, A, nL) => ∀ (H : Heap) (locs : List Loc) (ls : Array Slot), va_P G.1 vwCl (wl_ N ad ce μ) H → va_D A (wl_ N ad ce μ) → va_S A s.heap H locs → lv_has ls nL lv → W p l e R s m args below meth c H locs k n Q (F0 m pc ls st)
def po_ (G : gp_) (N : Nat) (ad : Nat → Nat) (ce : Nat → (Int → Int) → va_E) (A : Nat → Prop) (μ : mu_T) (t : State) : Prop := va_P G.1 vwCl (wl_ N ad ce μ) t.heap ∧ va_K G.1 vwCl (tys_ G.1) t ∧ va_D A (wl_ N ad ce μ)
def pr_ (G : gp_) (N : Nat) (ad : Nat → Nat) (ce : Nat → (Int → Int) → va_E) (μ : mu_T) (sz : Nat) (U : State) : Prop := U.heap.size = sz ∧ va_P G.1 vwCl (wl_ N ad ce μ) U.heap ∧ va_K G.1 vwCl (tys_ G.1) U ∧ va_D (fun q => G.2.2 ≤ q) (wl_ N ad ce μ) ∧ G.2.2 ≤ sz ∧ gk_ G U U.heap
def qi_ (G : gp_) (N : Nat) (ad : Nat → Nat) (ce : Nat → (Int → Int) → va_E) (A : Nat → Prop) (a : Int) (μ : mu_T) : Array Value → State → Outcome → State → Prop := va_Qi (fun (r : Int32) (_ : Unit) => r = iI a) (fun _ t => po_ G N ad ce A μ t) A
def qv_ (G : gp_) (N : Nat) (ad : Nat → Nat) (ce : Nat → (Int → Int) → va_E) (A : Nat → Prop) (μ : mu_T) : Array Value → State → Outcome → State → Prop := va_Qv (fun (_ : Unit) => True) (fun _ t => po_ G N ad ce A μ t) A
/-- a contract: int answers (boolean, char) -/
def mi_ (y : MethodName) (cc : ByteArray) (maxL : Nat) (ret : Option FieldType) (rm : Room) (G : gp_) (N : Nat) (ad : Nat → Nat) (ce : Nat → (Int → Int) → va_E) (av : List Value) (μ : mu_T) (a : Int) (μ' : mu_T) : Prop := ∀ (l : Launch) (sz : Nat), Met l y (Cond.code y cc maxL ret :: gT_) rm (va_Pc av (pr_ G N ad ce μ sz)) (qi_ G N ad ce (va_A (wl_ N ad ce μ) sz) a μ') rm.cells rm.slots (va_A (wl_ N ad ce μ) sz)
def mv_ (y : MethodName) (cc : ByteArray) (maxL : Nat) (rm : Room) (G : gp_) (N : Nat) (ad : Nat → Nat) (ce : Nat → (Int → Int) → va_E) (av : List Value) (μ : mu_T) (μ' : mu_T) : Prop := ∀ (l : Launch) (sz : Nat), Met l y (Cond.code y cc maxL none :: gT_) rm (va_Pc av (pr_ G N ad ce μ sz)) (qv_ G N ad ce (va_A (wl_ N ad ce μ) sz) μ') rm.cells rm.slots (va_A (wl_ N ad ce μ) sz)
def ei_ (G : gp_) (X : ct_) (N : Nat) (ad : Nat → Nat) (ce : Nat → (Int → Int) → va_E) (a : Int) (μ : mu_T) (rm : Room) : Prop := match X with
  | (_, _, _, _, s, _, args, below, _, _, Q, A, _) => Q = MQ below (qi_ G N ad ce A a μ) args s rm.cells rm.slots A
def ev_ (G : gp_) (X : ct_) (N : Nat) (ad : Nat → Nat) (ce : Nat → (Int → Int) → va_E) (μ : mu_T) (rm : Room) : Prop := match X with
  | (_, _, _, _, s, _, args, below, _, _, Q, A, _) => Q = MQ below (qv_ G N ad ce A μ) args s rm.cells rm.slots A
section MIN
variable {y : MethodName} {cc : ByteArray} {maxL : Nat} {ret : Option FieldType} {rm : Room} {G : gp_} {N : Nat} {ad : Nat → Nat} {ce : Nat → (Int → Int) → va_E} {av : List Value} {μ μ' : mu_T} {a : Int} {own : String} {lv : List (Nat × Value)}
theorem mi_in (hy : plainName y.cls = true) (hown : y.cls = own) (hlv : lv_args 0 av = lv) (hn : (lg_sl av).length ≤ maxL) (body : ∀ X : ct_, cx_ G X cc own rm ret maxL → ei_ G X N ad ce a μ' rm → wx_ G X N ad ce μ 0 0 0 lv []) : mi_ y cc maxL ret rm G N ad ce av μ a μ' := by
  intro l sz
  refine Met.ofW (cc := cc) (maxL := maxL) (ret := ret) hy rfl ?_
  intro p e s m args below meth c s₁ B hml hv
  obtain ⟨rfl, hsz, hP, hK, hD0, hbs, hg⟩ := hv
  subst hsz
  have hts := atoms_spec (ws := Cond.code y cc maxL ret :: gT_) B.pre
  have hfc : s.vm.findClass y.cls = some m.cls := findClass_of_methodNamed B.named
  rw [lg_entry_eq]
  have hl := lv_entry av hn
  rw [hlv] at hl
  have hAb : ∀ q, va_A (wl_ N ad ce μ) s.heap.size q → G.2.2 ≤ q := fun q h => by
    rcases h with ⟨k, e, h⟩ | h
    · exact hD0.2 k _ h
    · exact Nat.le_trans hbs h
  exact body (p, l, e, (headSpec (Cond.code y cc maxL ret :: gT_) rm).room, s, m, av.toArray, below, meth, c, _, va_A (wl_ N ad ce μ) s.heap.size, maxL)
    ⟨B.exec, B.bytes, fun w hw => hts w (List.mem_cons_of_mem _ hw), hown ▸ hfc, hK, fun q h => Or.inr h, hml, B.notSynchronized, hAb, rfl, B.returns, hg, rfl⟩ rfl s.heap [] _ hP (hD0.self (sz := s.heap.size)) va_S.rf hl
theorem mv_in (hy : plainName y.cls = true) (hown : y.cls = own) (hlv : lv_args 0 av = lv) (hn : (lg_sl av).length ≤ maxL) (body : ∀ X : ct_, cx_ G X cc own rm none maxL → ev_ G X N ad ce μ' rm → wx_ G X N ad ce μ 0 0 0 lv []) : mv_ y cc maxL rm G N ad ce av μ μ' := by
  intro l sz
  refine Met.ofW (cc := cc) (maxL := maxL) (ret := none) hy rfl ?_
  intro p e s m args below meth c s₁ B hml hv
  obtain ⟨rfl, hsz, hP, hK, hD0, hbs, hg⟩ := hv
  subst hsz
  have hts := atoms_spec (ws := Cond.code y cc maxL none :: gT_) B.pre
  have hfc : s.vm.findClass y.cls = some m.cls := findClass_of_methodNamed B.named
  rw [lg_entry_eq]
  have hl := lv_entry av hn
  rw [hlv] at hl
  have hAb : ∀ q, va_A (wl_ N ad ce μ) s.heap.size q → G.2.2 ≤ q := fun q h => by
    rcases h with ⟨k, e, h⟩ | h
    · exact hD0.2 k _ h
    · exact Nat.le_trans hbs h
  exact body (p, l, e, (headSpec (Cond.code y cc maxL none :: gT_) rm).room, s, m, av.toArray, below, meth, c, _, va_A (wl_ N ad ce μ) s.heap.size, maxL)
    ⟨B.exec, B.bytes, fun w hw => hts w (List.mem_cons_of_mem _ hw), hown ▸ hfc, hK, fun q h => Or.inr h, hml, B.notSynchronized, hAb, rfl, B.returns, hg, rfl⟩ rfl s.heap [] _ hP (hD0.self (sz := s.heap.size)) va_S.rf hl
end MIN
