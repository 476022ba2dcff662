/-! longs, and a world that is one cell larger than the program's (written by wip/gen40/rows8.py) -/
theorem in_J0 : ∀ w ∈ u_ws "java/lang/String" TJ0 4, w ∈ gT_ := gl_ (by decide +kernel)
def iL (x : Int) : Int64 := Int64.ofInt x
theorem iL_add (a b : Int) : iL a + iL b = iL (a + b) := (Int64.ofInt_add a b).symm
theorem iL_mul (a b : Int) : iL a * iL b = iL (a * b) := (Int64.ofInt_mul a b).symm
theorem iL_i (a : Int) : (iI a).toInt64 = iL (iI a).toInt := by
  refine Int64.toInt_inj.mp ?_
  rw [Int32.toInt_toInt64]
  have h := iI_rg (iI a)
  exact (Int64.toInt_ofInt_of_le (by omega) (by omega)).symm
/-- an int as a long -/
def il_ {α : Type} (a : Int) (f : Int → Option α) : Option α := f (iI a).toInt
/-- two longs compared, that are the same -/
def lc_ {α : Type} (a b : Int) (f : Option α) : Option α := if a = b then f else none
/-- two doubles compared, that are the same -/
def dc_ {α : Type} (x y : UInt64) (f : Option α) : Option α := if Op.cmpValue (FP.dcmp x y) .l = iI 0 then f else none
def fc_ {α : Type} (x y : UInt32) (f : Option α) : Option α := if Op.cmpValue (FP.fcmp x y) .l = iI 0 then f else none
def ql_ (G : gp_) (N : Nat) (ad : Nat → Nat) (ce : Nat → (Int → Int) → va_E) (A : Nat → Prop) (a : Int) (μ : mu_T) : Array Value → State → Outcome → State → Prop := va_Ql (fun (r : Int64) (_ : Unit) => r = iL a) (fun _ t => po_ G N ad ce A μ t) A
def ml_ (y : MethodName) (cc : ByteArray) (maxL : Nat) (ret : Option FieldType) (rm : Room) (G : gp_) (N : Nat) (ad : Nat → Nat) (ce : Nat → (Int → Int) → va_E) (av : List Value) (μ : mu_T) (a : Int) (μ1 : mu_T) : Prop := ∀ (l : Launch) (sz : Nat), Met l y (Cond.code y cc maxL ret :: gT_) rm (va_Pc av (pr_ G N ad ce μ sz)) (ql_ G N ad ce (va_A (wl_ N ad ce μ) sz) a μ1) rm.cells rm.slots (va_A (wl_ N ad ce μ) sz)
def el_ (G : gp_) (X : ct_) (N : Nat) (ad : Nat → Nat) (ce : Nat → (Int → Int) → va_E) (a : Int) (μ : mu_T) (rm : Room) : Prop := match X with
  | (_, _, _, _, s, _, args, below, _, _, Q, A, _) => Q = MQ below (ql_ G N ad ce A a μ) args s rm.cells rm.slots A
theorem ml_in {y : MethodName} {cc : ByteArray} {maxL : Nat} {ret : Option FieldType} {rm : Room} {G : gp_} {N : Nat} {ad : Nat → Nat} {ce : Nat → (Int → Int) → va_E} {av : List Value} {μ μ1 : mu_T} {a : Int} {own : String} {lv : List (Nat × Value)} (hy : plainName y.cls = true) (hown : y.cls = own) (hlv : lv_args 0 av = lv) (hn : (lg_sl av).length ≤ maxL) (body : ∀ X : ct_, cx_ G X cc own rm ret maxL → el_ G X N ad ce a μ1 rm → wx_ G X N ad ce μ 0 0 0 lv []) : ml_ y cc maxL ret rm G N ad ce av μ a μ1 := fun l sz => mq_in (Qc := fun A => ql_ G N ad ce A a μ1) hy hown hlv hn (fun X C E => body X C E) l sz
/-- a row of three ints, a row of sixty longs, behind a world of 151 cells -/
def cI_ (G : gp_) (ce : Nat → (Int → Int) → va_E) : Nat → (Int → Int) → va_E := fun k row => bif Nat.beq k 151 then .inl (G.1.1 100, 3, .inl (fun j => iI (row (j : Nat)))) else ce k row
def cJ_ (G : gp_) (ce : Nat → (Int → Int) → va_E) : Nat → (Int → Int) → va_E := fun k row => bif Nat.beq k 151 then .inl (G.1.1 104, 60, .inr (.inl (fun j => iL (row (j : Nat))))) else ce k row
theorem cI_ne {G : gp_} {ce : Nat → (Int → Int) → va_E} {k : Nat} (h : k ≠ 151) {row : Int → Int} : cI_ G ce k row = ce k row := by unfold cI_; rw [beq9 h]; rfl
theorem cJ_ne {G : gp_} {ce : Nat → (Int → Int) → va_E} {k : Nat} (h : k ≠ 151) {row : Int → Int} : cJ_ G ce k row = ce k row := by unfold cJ_; rw [beq9 h]; rfl
theorem wl_x {ad : Nat → Nat} {ce ce2 : Nat → (Int → Int) → va_E} {μ : mu_T} {x : Nat} (hce : ∀ k, k ≠ 151 → ∀ row, ce2 k row = ce k row) : wl_ 152 (a9_ ad x) ce2 μ = wl_ 151 ad ce μ ++ [(x, ce2 151 (μ 151))] := by
  apply List.ext_getElem?
  intro i
  have hlen : (wl_ 151 ad ce μ).length = 151 := by unfold wl_; rw [List.length_map, List.length_range]
  by_cases h : i < 151
  · rw [List.getElem?_append_left (by rw [hlen]; exact h), wl_get h, wl_get (show i < 152 by omega), a9_ne (by omega), hce i (by omega)]
  · by_cases h2 : i = 151
    · subst h2
      rw [List.getElem?_append_right (by rw [hlen]; exact Nat.le_refl _), wl_get (show 151 < 152 by omega), hlen]
      rfl
    · rw [List.getElem?_eq_none (by unfold wl_; rw [List.length_map, List.length_range]; omega), List.getElem?_eq_none (by rw [List.length_append, hlen]; show 151 + 1 ≤ i; omega)]
theorem wl_u {ad : Nat → Nat} {ce : Nat → (Int → Int) → va_E} {μ : mu_T} {g : Int → Int} : wl_ 151 ad ce (um_ μ 151 g) = wl_ 151 ad ce μ := by
  unfold wl_
  refine List.map_congr_left (fun i hi => ?_)
  rw [um_ne (by have := List.mem_range.mp hi; omega)]
def mm_ {α : Type} (m : mu_T) (f : mu_T → Option α) : Option α := f m
/-- behind a call: the cell that is added stays -/
def be_ {α β : Type} (μ : mu_T) (x : Option (β × mu_T)) (f : β → mu_T → Option α) : Option α := bp_ x (fun a m => f a (um_ m 151 (μ 151)))
theorem yapp_l {w0 w2 : va_W} {k : Nat} {x : Nat × va_E} (h : w0[k]? = some x) : (w0 ++ w2)[k]? = some x := by
  rw [List.getElem?_append_left (List.getElem?_eq_some_iff.mp h).1]
  exact h
theorem yapp_r {w0 w2 : va_W} {k : Nat} {x : Nat × va_E} (h : w2[k]? = some x) : (w0 ++ w2)[w0.length + k]? = some x := by
  rw [List.getElem?_append_right (by omega), Nat.add_sub_cancel_left]
  exact h
theorem yD_l {A : Nat → Prop} {w0 w2 : va_W} (h : va_D A (w0 ++ w2)) : va_D A w0 := ⟨fun i j x y hx hy e => h.1 i j x y (yapp_l hx) (yapp_l hy) e, fun k x hx => h.2 k x (yapp_l hx)⟩
theorem yD_r {A : Nat → Prop} {w0 w2 : va_W} (h : va_D A (w0 ++ w2)) : va_D A w2 := ⟨fun i j x y hx hy e => by have := h.1 _ _ x y (yapp_r hx) (yapp_r hy) e; omega, fun k x hx => h.2 _ x (yapp_r hx)⟩
theorem yP_l {D : va_G} {cl : List vw_C} {w0 w2 : va_W} {H : Heap} (h : va_P D cl (w0 ++ w2) H) : va_P D cl w0 H := fun k x hx => h k x (yapp_l hx)
theorem yP_r {D : va_G} {cl : List vw_C} {w0 w2 : va_W} {H : Heap} (h : va_P D cl (w0 ++ w2) H) : va_P D cl w2 H := fun k x hx => h _ x (yapp_r hx)
/-- behind a call over the first world -/
theorem yjl_ {D : va_G} {cl : List vw_C} {A : Nat → Prop} {w0 w1 w2 : va_W} {H H1 : Heap} (hP : va_P D cl (w0 ++ w2) H) (hD : va_D A (w0 ++ w2)) (hk : ∀ x : Nat, x < H.size → ¬ va_A w0 H.size x → H1[x]? = H[x]?) (hF : ∀ x, va_A w0 H.size x → A x) (hP1 : va_P D cl w1 H1) (hD1 : va_D (va_A w0 H.size) w1) : va_P D cl (w1 ++ w2) H1 ∧ va_D A (w1 ++ w2) := by
  have hno : ∀ (k : Nat) (x : Nat × va_E), w2[k]? = some x → ¬ va_A w0 H.size x.1 := fun k x hx hz => by
    rcases hz with ⟨j, e8, hj⟩ | hz
    · have := hD.1 _ _ _ _ (yapp_l hj) (yapp_r hx) rfl
      have hlt := (List.getElem?_eq_some_iff.mp hj).1
      omega
    · have := (yP_r hP k x hx).lt
      omega
  exact ⟨hP1.app ((yP_r hP).kept (fun k x hx => hk x.1 ((yP_r hP k x hx).lt) (hno k x hx))), va_D.app (hD1.weaken (fun _ x _ h => hF x.1 h)) (yD_r hD) (fun i j x y hx hy hxy => hno j y hy (by rw [← hxy]; exact hD1.2 i x hx))⟩
/-- behind a call over the second world -/
theorem yjr_ {D : va_G} {cl : List vw_C} {A : Nat → Prop} {w0 w1 w2 : va_W} {H H1 : Heap} (hP : va_P D cl (w0 ++ w2) H) (hD : va_D A (w0 ++ w2)) (hk : ∀ x : Nat, x < H.size → ¬ va_A w2 H.size x → H1[x]? = H[x]?) (hF : ∀ x, va_A w2 H.size x → A x) (hP1 : va_P D cl w1 H1) (hD1 : va_D (va_A w2 H.size) w1) : va_P D cl (w0 ++ w1) H1 ∧ va_D A (w0 ++ w1) := by
  have hno : ∀ (k : Nat) (x : Nat × va_E), w0[k]? = some x → ¬ va_A w2 H.size x.1 := fun k x hx hz => by
    rcases hz with ⟨j, e8, hj⟩ | hz
    · have := hD.1 _ _ _ _ (yapp_l hx) (yapp_r hj) rfl
      have hlt := (List.getElem?_eq_some_iff.mp hx).1
      omega
    · have := (yP_l hP k x hx).lt
      omega
  exact ⟨((yP_l hP).kept (fun k x hx => hk x.1 ((yP_l hP k x hx).lt) (hno k x hx))).app hP1, va_D.app (yD_l hD) (hD1.weaken (fun _ x _ h => hF x.1 h)) (fun i j x y hx hy hxy => hno i x hx (by rw [hxy]; exact hD1.2 j y hy))⟩
section XU
variable {G : gp_} {X : ct_} {N : Nat} {ad : Nat → Nat} {ce : Nat → (Int → Int) → va_E} {μ : mu_T} {k n pc : Nat} {lv lv1 : List (Nat × Value)} {st stk : List Value} {cc : ByteArray} {own : String} {rm : Room} {ret : Option FieldType} {nl : Nat} {α : Type} {r : α}
theorem xx_lconst0 (C : cx_ G X cc own rm ret nl) (p1 : Nat) (hp : pc + 1 = p1) (d : decode cc pc = .ok (.lconst 0, 1)) (h : wx_ G X N ad ce μ k n p1 lv (.long (iL 0) :: st)) : wx_ G X N ad ce μ k n pc lv st := by
  obtain ⟨p, l, e, R, s, m, args, below, meth, c, Q, A, nL⟩ := X
  intro H locs ls hP hD hS hl
  subst hp
  exact lv_lconst C.1 C.2.1 d rfl (h H locs ls hP hD hS hl)
theorem xx_lload_n (C : cx_ G X cc own rm ret nl) (p1 : Nat) (hp : pc + 1 = p1) (q : Nat) {kf : Fin 4} {j : Nat} {x : Int64} (d : decode cc pc = .ok (.lload_n kf, 1)) (hi : (kf : Nat) = j) (hq : lv[q]? = some (j, .long x)) (h : wx_ G X N ad ce μ k n p1 lv (.long x :: st)) : wx_ G X N ad ce μ k n pc lv st := by
  obtain ⟨p, l, e, R, s, m, args, below, meth, c, Q, A, nL⟩ := X
  intro H locs ls hP hD hS hl
  subst hp
  exact lv_lload_n C.1 C.2.1 d hi (lv_at hl q hq) (h H locs ls hP hD hS hl)
theorem xx_lload (C : cx_ G X cc own rm ret nl) (p1 : Nat) (hp : pc + 2 = p1) (q : Nat) {j : Nat} {x : Int64} (d : decode cc pc = .ok (.lload j, 2)) (hq : lv[q]? = some (j, .long x)) (h : wx_ G X N ad ce μ k n p1 lv (.long x :: st)) : wx_ G X N ad ce μ k n pc lv st := by
  obtain ⟨p, l, e, R, s, m, args, below, meth, c, Q, A, nL⟩ := X
  intro H locs ls hP hD hS hl
  subst hp
  exact lv_lload C.1 C.2.1 d (lv_at hl q hq) (h H locs ls hP hD hS hl)
theorem xx_lstore_n (C : cx_ G X cc own rm ret nl) (p1 : Nat) (hp : pc + 1 = p1) {kf : Fin 4} {j : Nat} {x : Int64} (hn : j + 1 < nl) (d : decode cc pc = .ok (.lstore_n kf, 1)) (hi : (kf : Nat) = j) (hf : (j, Value.long x) :: lv.filter (fun q => !(q.1 == j) && (!(q.1 == j + 1) && !(q.1 + 1 == j && q.2.category == 2))) = lv1) (h : wx_ G X N ad ce μ k n p1 lv1 st) : wx_ G X N ad ce μ k n pc lv (.long x :: st) := by
  obtain ⟨p, l, e, R, s, m, args, below, meth, c, Q, A, nL⟩ := X
  intro H locs ls hP hD hS hl
  subst hp
  exact lv_lstore_n C.1 C.2.1 d hi hl (C.2.2.2.2.2.2.2.2.2.2.2.2 ▸ hn) hf (fun ls hl => h H locs ls hP hD hS hl)
theorem xx_lstore (C : cx_ G X cc own rm ret nl) (p1 : Nat) (hp : pc + 2 = p1) {j : Nat} {x : Int64} (hn : j + 1 < nl) (d : decode cc pc = .ok (.lstore j, 2)) (hf : (j, Value.long x) :: lv.filter (fun q => !(q.1 == j) && (!(q.1 == j + 1) && !(q.1 + 1 == j && q.2.category == 2))) = lv1) (h : wx_ G X N ad ce μ k n p1 lv1 st) : wx_ G X N ad ce μ k n pc lv (.long x :: st) := by
  obtain ⟨p, l, e, R, s, m, args, below, meth, c, Q, A, nL⟩ := X
  intro H locs ls hP hD hS hl
  subst hp
  exact lv_lstore C.1 C.2.1 d hl (C.2.2.2.2.2.2.2.2.2.2.2.2 ▸ hn) hf (fun ls hl => h H locs ls hP hD hS hl)
theorem xx_dstore (C : cx_ G X cc own rm ret nl) (p1 : Nat) (hp : pc + 2 = p1) {j : Nat} {x : UInt64} (hn : j + 1 < nl) (d : decode cc pc = .ok (.dstore j, 2)) (hf : (j, Value.double x) :: lv.filter (fun q => !(q.1 == j) && (!(q.1 == j + 1) && !(q.1 + 1 == j && q.2.category == 2))) = lv1) (h : wx_ G X N ad ce μ k n p1 lv1 st) : wx_ G X N ad ce μ k n pc lv (.double x :: st) := by
  obtain ⟨p, l, e, R, s, m, args, below, meth, c, Q, A, nL⟩ := X
  intro H locs ls hP hD hS hl
  subst hp
  exact lv_dstore C.1 C.2.1 d hl (C.2.2.2.2.2.2.2.2.2.2.2.2 ▸ hn) hf (fun ls hl => h H locs ls hP hD hS hl)
theorem xx_fstore (C : cx_ G X cc own rm ret nl) (p1 : Nat) (hp : pc + 2 = p1) {j : Nat} {x : UInt32} (hn : j < nl) (d : decode cc pc = .ok (.fstore j, 2)) (hf : (j, Value.float x) :: lv.filter (fun q => !(q.1 == j) && !(q.1 + 1 == j && q.2.category == 2)) = lv1) (h : wx_ G X N ad ce μ k n p1 lv1 st) : wx_ G X N ad ce μ k n pc lv (.float x :: st) := by
  obtain ⟨p, l, e, R, s, m, args, below, meth, c, Q, A, nL⟩ := X
  intro H locs ls hP hD hS hl
  subst hp
  exact lv_fstore C.1 C.2.1 d hl (C.2.2.2.2.2.2.2.2.2.2.2.2 ▸ hn) hf (fun ls hl => h H locs ls hP hD hS hl)
theorem xx_dload (C : cx_ G X cc own rm ret nl) (p1 : Nat) (hp : pc + 2 = p1) (q : Nat) {j : Nat} {x : UInt64} (d : decode cc pc = .ok (.dload j, 2)) (hq : lv[q]? = some (j, .double x)) (h : wx_ G X N ad ce μ k n p1 lv (.double x :: st)) : wx_ G X N ad ce μ k n pc lv st := by
  obtain ⟨p, l, e, R, s, m, args, below, meth, c, Q, A, nL⟩ := X
  intro H locs ls hP hD hS hl
  subst hp
  exact lv_dload C.1 C.2.1 d (lv_at hl q hq) (h H locs ls hP hD hS hl)
theorem xx_fload (C : cx_ G X cc own rm ret nl) (p1 : Nat) (hp : pc + 2 = p1) (q : Nat) {j : Nat} {x : UInt32} (d : decode cc pc = .ok (.fload j, 2)) (hq : lv[q]? = some (j, .float x)) (h : wx_ G X N ad ce μ k n p1 lv (.float x :: st)) : wx_ G X N ad ce μ k n pc lv st := by
  obtain ⟨p, l, e, R, s, m, args, below, meth, c, Q, A, nL⟩ := X
  intro H locs ls hP hD hS hl
  subst hp
  exact lv_fload C.1 C.2.1 d (lv_at hl q hq) (h H locs ls hP hD hS hl)
theorem xx_ladd (C : cx_ G X cc own rm ret nl) (p1 : Nat) (hp : pc + 1 = p1) {a b : Int} (d : decode cc pc = .ok (.ladd, 1)) (h : wx_ G X N ad ce μ k n p1 lv (.long (iL (a + b)) :: st)) : wx_ G X N ad ce μ k n pc lv (.long (iL b) :: .long (iL a) :: st) := by
  obtain ⟨p, l, e, R, s, m, args, below, meth, c, Q, A, nL⟩ := X
  intro H locs ls hP hD hS hl
  subst hp
  refine lv_ladd C.1 C.2.1 d ?_
  rw [iL_add]
  exact h H locs ls hP hD hS hl
theorem xx_lmul (C : cx_ G X cc own rm ret nl) (p1 : Nat) (hp : pc + 1 = p1) {a b : Int} (d : decode cc pc = .ok (.lmul, 1)) (h : wx_ G X N ad ce μ k n p1 lv (.long (iL (a * b)) :: st)) : wx_ G X N ad ce μ k n pc lv (.long (iL b) :: .long (iL a) :: st) := by
  obtain ⟨p, l, e, R, s, m, args, below, meth, c, Q, A, nL⟩ := X
  intro H locs ls hP hD hS hl
  subst hp
  refine lv_lmul C.1 C.2.1 d ?_
  rw [iL_mul]
  exact h H locs ls hP hD hS hl
theorem xx_i2l (C : cx_ G X cc own rm ret nl) (p1 : Nat) (hp : pc + 1 = p1) {a : Int} {f : Int → Option α} (d : decode cc pc = .ok (.i2l, 1)) (h : il_ a f = some r) (kk : ∀ v, f v = some r → wx_ G X N ad ce μ k n p1 lv (.long (iL v) :: st)) : wx_ G X N ad ce μ k n pc lv (.int (iI a) :: st) := by
  obtain ⟨p, l, e, R, s, m, args, below, meth, c, Q, A, nL⟩ := X
  intro H locs ls hP hD hS hl
  subst hp
  exact lv_i2l C.1 C.2.1 d (iL_i a) (kk _ h H locs ls hP hD hS hl)
theorem xx_lcmp (C : cx_ G X cc own rm ret nl) (p1 : Nat) (hp : pc + 1 = p1) {a b : Int} {f : Option α} (d : decode cc pc = .ok (.lcmp, 1)) (h : lc_ a b f = some r) (kk : f = some r → wx_ G X N ad ce μ k n p1 lv (.int (iI 0) :: st)) : wx_ G X N ad ce μ k n pc lv (.long (iL b) :: .long (iL a) :: st) := by
  obtain ⟨p, l, e, R, s, m, args, below, meth, c, Q, A, nL⟩ := X
  intro H locs ls hP hD hS hl
  subst hp
  obtain ⟨e9, h2⟩ := ck_e h
  subst e9
  refine W.lcmp C.1 C.2.1 d ?_
  have e0 : ∀ z : Int64, lg_cmp z z = iI 0 := fun z => by
    unfold lg_cmp
    rw [if_neg (Int64.lt_irrefl), if_pos rfl]
    rfl
  rw [e0]
  exact kk h2 H locs ls hP hD hS hl
theorem xx_ldc2l (C : cx_ G X cc own rm ret nl) (p1 : Nat) (hp : pc + 3 = p1) {v : Int} {index : Nat} (w : Cond.constantLong own index (iL v) ∈ gT_) (d : decode cc pc = .ok (.ldc2_w index, 3)) (h : wx_ G X N ad ce μ k n p1 lv (.long (iL v) :: st)) : wx_ G X N ad ce μ k n pc lv st := by
  obtain ⟨p, l, e, R, s, m, args, below, meth, c, Q, A, nL⟩ := X
  intro H locs ls hP hD hS hl
  subst hp
  exact lv_ldc2 C.1 C.2.1 C.2.2.2.1 (C.2.2.1 _ w) d (h H locs ls hP hD hS hl)
theorem xx_dcmp (C : cx_ G X cc own rm ret nl) (p1 : Nat) (hp : pc + 1 = p1) {x y : UInt64} {f : Option α} (d : decode cc pc = .ok (.dcmp .l, 1)) (h : dc_ x y f = some r) (kk : f = some r → wx_ G X N ad ce μ k n p1 lv (.int (iI 0) :: st)) : wx_ G X N ad ce μ k n pc lv (.double y :: .double x :: st) := by
  obtain ⟨p, l, e, R, s, m, args, below, meth, c, Q, A, nL⟩ := X
  intro H locs ls hP hD hS hl
  subst hp
  obtain ⟨hv, h⟩ := ck_e h
  refine lv_dcmp C.1 C.2.1 d ?_
  rw [hv]
  exact kk h H locs ls hP hD hS hl
theorem xx_fcmp (C : cx_ G X cc own rm ret nl) (p1 : Nat) (hp : pc + 1 = p1) {x y : UInt32} {f : Option α} (d : decode cc pc = .ok (.fcmp .l, 1)) (h : fc_ x y f = some r) (kk : f = some r → wx_ G X N ad ce μ k n p1 lv (.int (iI 0) :: st)) : wx_ G X N ad ce μ k n pc lv (.float y :: .float x :: st) := by
  obtain ⟨p, l, e, R, s, m, args, below, meth, c, Q, A, nL⟩ := X
  intro H locs ls hP hD hS hl
  subst hp
  obtain ⟨hv, h⟩ := ck_e h
  refine lv_fcmp C.1 C.2.1 d ?_
  rw [hv]
  exact kk h H locs ls hP hD hS hl
theorem xx_lretp (C : cx_ G X cc own rm ret nl) {e0 a : Int} (E : el_ G X N ad ce a μ rm) (hr : ret = some .long) (hk : k ≤ rm.cells ∧ n ≤ rm.slots) (d : decode cc pc = .ok (.lreturn, 1)) (h : some e0 = some a) : wx_ G X N ad ce μ k n pc lv [.long (iL e0)] := by
  obtain ⟨p, l, e, R, s, m, args, below, meth, c, Q, A, nL⟩ := X
  intro H locs ls hP hD hS hl
  obtain rfl := Option.some.inj h
  obtain ⟨hx, hb, -, -, hK, -, -, hlocks, -, -, hrt, -, -⟩ := C
  subst hr
  rw [show Q = _ from E]
  refine W.widen hk.1 hk.2 ?_
  exact W.lret hx hb hrt (fun t ht hW => ⟨⟨_, (), rfl, rfl, by rw [ht]; exact hP, va_K.moved hW.alike hK, hD⟩, hS.F ht⟩) hS.2.2 d hlocks
theorem xx_laload (C : cx_ G X cc own rm ret nl) (p1 : Nat) (hp : pc + 1 = p1) {nA : Nat} {q : Nat} {i : Int} {f : Int → Option α} (hq : q < N) (he : ∀ row, ce q row = .inl (G.1.1 104, nA, .inr (.inl (fun j => iL (row (j : Nat)))))) (hn : nA < 2147483648) (d : decode cc pc = .ok (.laload, 1)) (h : rd_ μ q nA i f = some r) (kk : ∀ v, f v = some r → wx_ G X N ad ce μ k n p1 lv (.long (iL v) :: st)) : wx_ G X N ad ce μ k n pc lv (.int (iI i) :: .ref (ad q) :: st) := by
  obtain ⟨p, l, e, R, s, m, args, below, meth, c, Q, A, nL⟩ := X
  intro H locs ls hP hD hS hl
  subst hp
  obtain ⟨⟨h0, h1⟩, h⟩ := ck_e h
  refine va_lald C.1 C.2.1 C.2.2.2.2.1 hP q 4 ((wl_get hq).trans (by rw [he])) rfl (iI_in h0 h1 hn) d ?_
  have e1 : (((iI i).toNatClampNeg : Nat) : Int) = i := by rw [iI_clamp (by omega)]; omega
  show W _ _ _ _ _ _ _ _ _ _ _ _ _ _ _ (F0 m (pc + 1) ls (.long (iL (μ q (((iI i).toNatClampNeg : Nat) : Int))) :: st))
  rw [e1]
  exact kk _ h H locs ls hP hD hS hl
theorem xx_lastore (C : cx_ G X cc own rm ret nl) (p1 : Nat) (hp : pc + 1 = p1) {nA : Nat} {q : Nat} {i v : Int} {f : mu_T → Option α} (hq : q < N) (he : ∀ row, ce q row = .inl (G.1.1 104, nA, .inr (.inl (fun j => iL (row (j : Nat)))))) (hn : nA < 2147483648) (d : decode cc pc = .ok (.lastore, 1)) (h : wr_ μ q nA i v f = some r) (kk : ∀ μ1, f μ1 = some r → wx_ G X N ad ce μ1 k n p1 lv st) : wx_ G X N ad ce μ k n pc lv (.long (iL v) :: .int (iI i) :: .ref (ad q) :: st) := by
  obtain ⟨p, l, e, R, s, m, args, below, meth, c, Q, A, nL⟩ := X
  intro H locs ls hP hD hS hl
  subst hp
  obtain ⟨⟨h0, h1⟩, h⟩ := ck_e h
  refine va_last C.1 C.2.1 C.2.2.2.2.1 hP hD hS q 4 ((wl_get hq).trans (by rw [he])) rfl (iI_in h0 h1 hn) d (fun H1 locs1 hP1 hD1 hS1 => ?_)
  have e1 : (vp_updL (fun j : Nat => iL (μ q (j : Int))) (iI i).toNatClampNeg (iL v)) = fun j : Nat => iL (ur_ (μ q) i v (j : Int)) := by
    funext j
    rw [iI_clamp (by omega)]
    unfold vp_updL ur_
    by_cases hj : j = i.toNat
    · rw [if_pos hj, if_pos (by omega)]
    · rw [if_neg hj, if_neg (by omega)]
  rw [e1, ← he, wl_set] at hP1 hD1
  exact kk _ h H1 locs1 ls hP1 hD1 hS1 hl
theorem xx_newi (C : cx_ G X cc own rm ret nl) (p1 : Nat) (hp : pc + 2 = p1) (harr : Cond.arrayClass .int ∈ gT_) (hc : k + 1 ≤ rm.cells ∧ n + 3 ≤ rm.slots) {f : mu_T → Option α} (d : decode cc pc = .ok (.newarray .int, 2)) (h : mm_ (um_ μ 151 (fun _ => 0)) f = some r) (kk : ∀ x m, f m = some r → wx_ G X 152 (a9_ ad x) (cI_ G ce) m (k + 1) (n + 3) p1 lv (.ref x :: st)) : wx_ G X 151 ad ce μ k n pc lv (.int (iI 3) :: st) := by
  obtain ⟨p, l, e9, R, s, m, args, below, meth, c, Q, A, nL⟩ := X
  intro H locs ls hP hD hS hl
  subst hp
  have hR' : R = rm := C.2.2.2.2.2.2.2.2.2.1
  have hK := C.2.2.2.2.1
  refine va_newa (atype := .int) (ty := .int) C.1 C.2.1 (C.2.2.1 _ harr) rfl hK hP hD hS C.2.2.2.2.2.1 (N' := 3) (a0 := (3, .inl (fun _ => iI 0))) (fun cA => rfl) (by decide) (by decide) (by decide) (by rw [hR']; exact hc.1) (by rw [hR']; exact hc.2) d (fun x cA H1 hK1 hP1 hD1 hS1 => ?_)
  have e1 : s.vm.findClass ("[" ++ (FieldType.int).toString) = some (G.1.1 100) := (hK.2 0 _ rfl).2
  have e2 : s.vm.findClass ("[" ++ (FieldType.int).toString) = some cA := (hK1.2 5 _ rfl).2
  have e3 : cA = G.1.1 100 := Option.some.inj (e2.symm.trans e1)
  subst e3
  have e4 := wl_x (ad := ad) (ce := ce) (ce2 := cI_ G ce) (μ := um_ μ 151 (fun _ => 0)) (x := x) (fun k hk row => cI_ne hk)
  rw [wl_u, um_self] at e4
  refine kk x (um_ μ 151 (fun _ => 0)) h H1 locs ls ?_ ?_ hS1 hl
  · rw [e4]
    exact hP1
  · rw [e4]
    exact hD1
theorem xx_newl (C : cx_ G X cc own rm ret nl) (p1 : Nat) (hp : pc + 2 = p1) (harr : Cond.arrayClass .long ∈ gT_) (hc : k + 1 ≤ rm.cells ∧ n + 60 ≤ rm.slots) {f : mu_T → Option α} (d : decode cc pc = .ok (.newarray .long, 2)) (h : mm_ (um_ μ 151 (fun _ => 0)) f = some r) (kk : ∀ x m, f m = some r → wx_ G X 152 (a9_ ad x) (cJ_ G ce) m (k + 1) (n + 60) p1 lv (.ref x :: st)) : wx_ G X 151 ad ce μ k n pc lv (.int (iI 60) :: st) := by
  obtain ⟨p, l, e9, R, s, m, args, below, meth, c, Q, A, nL⟩ := X
  intro H locs ls hP hD hS hl
  subst hp
  have hR' : R = rm := C.2.2.2.2.2.2.2.2.2.1
  have hK := C.2.2.2.2.1
  refine va_newa (atype := .long) (ty := .long) C.1 C.2.1 (C.2.2.1 _ harr) rfl hK hP hD hS C.2.2.2.2.2.1 (N' := 60) (a0 := (60, .inr (.inl (fun _ => iL 0)))) (fun cA => rfl) (by decide) (by decide) (by decide) (by rw [hR']; exact hc.1) (by rw [hR']; exact hc.2) d (fun x cA H1 hK1 hP1 hD1 hS1 => ?_)
  have e1 : s.vm.findClass ("[" ++ (FieldType.long).toString) = some (G.1.1 104) := (hK.2 4 _ rfl).2
  have e2 : s.vm.findClass ("[" ++ (FieldType.long).toString) = some cA := (hK1.2 5 _ rfl).2
  have e3 : cA = G.1.1 104 := Option.some.inj (e2.symm.trans e1)
  subst e3
  have e4 := wl_x (ad := ad) (ce := ce) (ce2 := cJ_ G ce) (μ := um_ μ 151 (fun _ => 0)) (x := x) (fun k hk row => cJ_ne hk)
  rw [wl_u, um_self] at e4
  refine kk x (um_ μ 151 (fun _ => 0)) h H1 locs ls ?_ ?_ hS1 hl
  · rw [e4]
    exact hP1
  · rw [e4]
    exact hD1
theorem xe_cVip {ce2 : Nat → (Int → Int) → va_E} {x : Nat} (C : cx_ G X cc own rm ret nl) (p1 : Nat) (hp : pc + 3 = p1) (hce : ∀ k, k ≠ 151 → ∀ row, ce2 k row = ce k row) {F : Option Int} {f : Int → Option α} {y : MethodName} {bytes : ByteArray} {maxL nA index : Nat} {ret2 : Option FieldType} {rm2 : Room} {As : List Value} {ci o : Nat} {fs : List Value} {qc : vw_C} (ho : o < 151) (he : ce o (μ o) = .inr (ci, fs)) (hc : vwCl[ci]? = some qc) (hcl : qc.1 = y.cls) (hca : ca_ y bytes maxL ret2 nA) (hcv : cv_ y) (m1 : Cond.methodLink own index y ∈ gT_) (hn : As.length = nA) (hR : rm2.frames + 1 ≤ rm.frames ∧ 8 + (maxL + 11) + rm2.locals ≤ rm.locals) (hf : k + rm2.cells ≤ rm.cells ∧ n + rm2.slots ≤ rm.slots) (hW : (st.map fun v => v.category).sum ≤ 8) (d : decode cc pc = .ok (.invokevirtual index, 3)) (hM : ∀ a, F = some a → mi_ y bytes maxL ret2 rm2 G 151 ad ce (.ref (ad o) :: As) μ a μ) (h : bd_ F f = some r) (kk : ∀ a, f a = some r → wx_ G X 152 (a9_ ad x) ce2 μ (k + rm2.cells) (n + rm2.slots) p1 lv (.int (iI a) :: st)) (hst : stk = As.reverse ++ .ref (ad o) :: st) : wx_ G X 152 (a9_ ad x) ce2 μ k n pc lv stk := by
  obtain ⟨p, l, e, R, s, m, args, below, meth, c, Q, A, nL⟩ := X
  intro H locs ls hP hD hS hl
  rw [wl_x hce] at hP hD
  subst hp
  have hts := C.2.2.1
  have hK := C.2.2.2.2.1
  have hA := C.2.2.2.2.2.1
  have hAb := C.2.2.2.2.2.2.2.2.1
  have hR' : R = rm := C.2.2.2.2.2.2.2.2.2.1
  have hg := C.2.2.2.2.2.2.2.2.2.2.2.1
  subst hR'
  have hsz : G.2.2 ≤ H.size := by
    have h1 := hAb s.heap.size (hA _ (Nat.le_refl _))
    exact Nat.le_trans h1 hS.1
  have hPc : va_P G.1 vwCl (wl_ 151 ad ce μ) H := yP_l hP
  have hDc : va_D A (wl_ 151 ad ce μ) := yD_l hD
  have hDb : va_D (fun q => G.2.2 ≤ q) (wl_ 151 ad ce μ) := hDc.weaken (fun _ q _ h => hAb q.1 h)
  have hgH : gk_ G s H := gk_kept hg (fun a h1 h2 => hS.2.1 a h1 (fun q => h2 (hAb a q)))
  have hF : ∀ q, va_A (wl_ 151 ad ce μ) H.size q → A q := fun q h => by
    rcases h with ⟨j, e9, h⟩ | h
    · exact hDc.2 j _ h
    · exact hA q (Nat.le_trans hS.1 h)
  subst hst
  obtain ⟨a9, e9, h⟩ := bd_e h
  have hM9 := hM a9 e9 l H.size
  have hpreV : ∀ U : State, U.heap = H → s.WarmedH U.vm → va_Pc (.ref (ad o) :: As) (pr_ G 151 ad ce μ H.size) (Value.ref (ad o) :: As).toArray U := fun U hU hW9 => ⟨rfl, by rw [hU], by rw [hU]; exact hPc, va_K.moved hW9.alike hK, hDb, hsz, by rw [hU]; exact gk_warm hW9 hgH⟩
  refine va_calli (va_runV (rest := st) ⟨C.1, C.2.1, C.2.2.2.2.2.2.1, C.2.2.2.1, hts⟩ hM9 ⟨callB_of nA hts (gT_in hca.2.1) rfl rfl rfl (hts _ hca.1) (hts _ m1) hca.2.2 hR, hts _ hcv.1, hts _ hcv.2⟩ ⟨(fun a U g mk q => by obtain ⟨q0, q1, qP, qK, qD, q2, q3⟩ := q; exact ⟨q0, q1, qP, va_K.moved (u := U) (U := U.calling g mk a) (Vm.Alike.refl U.vm) qK, qD, q2, gk_same (u := U) (U := U.calling g mk a) rfl q3⟩), (by have h9 := va_recv hK hPc hc ((wl_get ho).trans (by rw [he])); rw [hcl] at h9; exact h9), hpreV⟩ rfl hn hl.1 rfl (lv_room hW) d hf) hS (fun q _ h => hF q h) hF (fun r9 u t H1 locs1 ht hvm hw hB hz1 hk1 hS1 => ?_)
  obtain ⟨hP1, hK1, hD1⟩ := hB
  rw [ht] at hP1
  rw [hw]
  obtain ⟨hP2, hD2⟩ := yjl_ hP hD hk1 hF hP1 hD1
  exact kk a9 h H1 locs1 ls (by rw [wl_x hce]; exact hP2) (by rw [wl_x hce]; exact hD2) hS1 hl
theorem xe_cVi {ce2 : Nat → (Int → Int) → va_E} {x : Nat} (C : cx_ G X cc own rm ret nl) (p1 : Nat) (hp : pc + 3 = p1) (hce : ∀ k, k ≠ 151 → ∀ row, ce2 k row = ce k row) {F : Option (Int × mu_T)} {f : Int → mu_T → Option α} {y : MethodName} {bytes : ByteArray} {maxL nA index : Nat} {ret2 : Option FieldType} {rm2 : Room} {As : List Value} {ci o : Nat} {fs : List Value} {qc : vw_C} (ho : o < 151) (he : ce o (μ o) = .inr (ci, fs)) (hc : vwCl[ci]? = some qc) (hcl : qc.1 = y.cls) (hca : ca_ y bytes maxL ret2 nA) (hcv : cv_ y) (m1 : Cond.methodLink own index y ∈ gT_) (hn : As.length = nA) (hR : rm2.frames + 1 ≤ rm.frames ∧ 8 + (maxL + 11) + rm2.locals ≤ rm.locals) (hf : k + rm2.cells ≤ rm.cells ∧ n + rm2.slots ≤ rm.slots) (hW : (st.map fun v => v.category).sum ≤ 8) (d : decode cc pc = .ok (.invokevirtual index, 3)) (hM : ∀ a μ1, F = some (a, μ1) → mi_ y bytes maxL ret2 rm2 G 151 ad ce (.ref (ad o) :: As) μ a μ1) (h : be_ μ F f = some r) (kk : ∀ a μ1, f a μ1 = some r → wx_ G X 152 (a9_ ad x) ce2 μ1 (k + rm2.cells) (n + rm2.slots) p1 lv (.int (iI a) :: st)) (hst : stk = As.reverse ++ .ref (ad o) :: st) : wx_ G X 152 (a9_ ad x) ce2 μ k n pc lv stk := by
  obtain ⟨p, l, e, R, s, m, args, below, meth, c, Q, A, nL⟩ := X
  intro H locs ls hP hD hS hl
  rw [wl_x hce] at hP hD
  subst hp
  have hts := C.2.2.1
  have hK := C.2.2.2.2.1
  have hA := C.2.2.2.2.2.1
  have hAb := C.2.2.2.2.2.2.2.2.1
  have hR' : R = rm := C.2.2.2.2.2.2.2.2.2.1
  have hg := C.2.2.2.2.2.2.2.2.2.2.2.1
  subst hR'
  have hsz : G.2.2 ≤ H.size := by
    have h1 := hAb s.heap.size (hA _ (Nat.le_refl _))
    exact Nat.le_trans h1 hS.1
  have hPc : va_P G.1 vwCl (wl_ 151 ad ce μ) H := yP_l hP
  have hDc : va_D A (wl_ 151 ad ce μ) := yD_l hD
  have hDb : va_D (fun q => G.2.2 ≤ q) (wl_ 151 ad ce μ) := hDc.weaken (fun _ q _ h => hAb q.1 h)
  have hgH : gk_ G s H := gk_kept hg (fun a h1 h2 => hS.2.1 a h1 (fun q => h2 (hAb a q)))
  have hF : ∀ q, va_A (wl_ 151 ad ce μ) H.size q → A q := fun q h => by
    rcases h with ⟨j, e9, h⟩ | h
    · exact hDc.2 j _ h
    · exact hA q (Nat.le_trans hS.1 h)
  subst hst
  obtain ⟨a9, μ9, e9, h⟩ := bp_e h
  have hM9 := hM a9 μ9 e9 l H.size
  have hpreV : ∀ U : State, U.heap = H → s.WarmedH U.vm → va_Pc (.ref (ad o) :: As) (pr_ G 151 ad ce μ H.size) (Value.ref (ad o) :: As).toArray U := fun U hU hW9 => ⟨rfl, by rw [hU], by rw [hU]; exact hPc, va_K.moved hW9.alike hK, hDb, hsz, by rw [hU]; exact gk_warm hW9 hgH⟩
  refine va_calli (va_runV (rest := st) ⟨C.1, C.2.1, C.2.2.2.2.2.2.1, C.2.2.2.1, hts⟩ hM9 ⟨callB_of nA hts (gT_in hca.2.1) rfl rfl rfl (hts _ hca.1) (hts _ m1) hca.2.2 hR, hts _ hcv.1, hts _ hcv.2⟩ ⟨(fun a U g mk q => by obtain ⟨q0, q1, qP, qK, qD, q2, q3⟩ := q; exact ⟨q0, q1, qP, va_K.moved (u := U) (U := U.calling g mk a) (Vm.Alike.refl U.vm) qK, qD, q2, gk_same (u := U) (U := U.calling g mk a) rfl q3⟩), (by have h9 := va_recv hK hPc hc ((wl_get ho).trans (by rw [he])); rw [hcl] at h9; exact h9), hpreV⟩ rfl hn hl.1 rfl (lv_room hW) d hf) hS (fun q _ h => hF q h) hF (fun r9 u t H1 locs1 ht hvm hw hB hz1 hk1 hS1 => ?_)
  obtain ⟨hP1, hK1, hD1⟩ := hB
  rw [ht] at hP1
  rw [hw]
  obtain ⟨hP2, hD2⟩ := yjl_ hP hD hk1 hF hP1 hD1
  exact kk a9 (um_ μ9 151 (μ 151)) h H1 locs1 ls (by rw [wl_x hce, wl_u, um_self]; exact hP2) (by rw [wl_x hce, wl_u, um_self]; exact hD2) hS1 hl
theorem xe_cVdp {ce2 : Nat → (Int → Int) → va_E} {x : Nat} (C : cx_ G X cc own rm ret nl) (p1 : Nat) (hp : pc + 3 = p1) (hce : ∀ k, k ≠ 151 → ∀ row, ce2 k row = ce k row) {F : Option UInt64} {f : UInt64 → Option α} {y : MethodName} {bytes : ByteArray} {maxL nA index : Nat} {ret2 : Option FieldType} {rm2 : Room} {As : List Value} {ci o : Nat} {fs : List Value} {qc : vw_C} (ho : o < 151) (he : ce o (μ o) = .inr (ci, fs)) (hc : vwCl[ci]? = some qc) (hcl : qc.1 = y.cls) (hca : ca_ y bytes maxL ret2 nA) (hcv : cv_ y) (m1 : Cond.methodLink own index y ∈ gT_) (hn : As.length = nA) (hR : rm2.frames + 1 ≤ rm.frames ∧ 8 + (maxL + 11) + rm2.locals ≤ rm.locals) (hf : k + rm2.cells ≤ rm.cells ∧ n + rm2.slots ≤ rm.slots) (hW : (st.map fun v => v.category).sum ≤ 8) (d : decode cc pc = .ok (.invokevirtual index, 3)) (hM : ∀ a, F = some a → md_ y bytes maxL ret2 rm2 G 151 ad ce (.ref (ad o) :: As) μ a μ) (h : bd_ F f = some r) (kk : ∀ a, f a = some r → wx_ G X 152 (a9_ ad x) ce2 μ (k + rm2.cells) (n + rm2.slots) p1 lv (.double a :: st)) (hst : stk = As.reverse ++ .ref (ad o) :: st) : wx_ G X 152 (a9_ ad x) ce2 μ k n pc lv stk := by
  obtain ⟨p, l, e, R, s, m, args, below, meth, c, Q, A, nL⟩ := X
  intro H locs ls hP hD hS hl
  rw [wl_x hce] at hP hD
  subst hp
  have hts := C.2.2.1
  have hK := C.2.2.2.2.1
  have hA := C.2.2.2.2.2.1
  have hAb := C.2.2.2.2.2.2.2.2.1
  have hR' : R = rm := C.2.2.2.2.2.2.2.2.2.1
  have hg := C.2.2.2.2.2.2.2.2.2.2.2.1
  subst hR'
  have hsz : G.2.2 ≤ H.size := by
    have h1 := hAb s.heap.size (hA _ (Nat.le_refl _))
    exact Nat.le_trans h1 hS.1
  have hPc : va_P G.1 vwCl (wl_ 151 ad ce μ) H := yP_l hP
  have hDc : va_D A (wl_ 151 ad ce μ) := yD_l hD
  have hDb : va_D (fun q => G.2.2 ≤ q) (wl_ 151 ad ce μ) := hDc.weaken (fun _ q _ h => hAb q.1 h)
  have hgH : gk_ G s H := gk_kept hg (fun a h1 h2 => hS.2.1 a h1 (fun q => h2 (hAb a q)))
  have hF : ∀ q, va_A (wl_ 151 ad ce μ) H.size q → A q := fun q h => by
    rcases h with ⟨j, e9, h⟩ | h
    · exact hDc.2 j _ h
    · exact hA q (Nat.le_trans hS.1 h)
  subst hst
  obtain ⟨a9, e9, h⟩ := bd_e h
  have hM9 := hM a9 e9 l H.size
  have hpreV : ∀ U : State, U.heap = H → s.WarmedH U.vm → va_Pc (.ref (ad o) :: As) (pr_ G 151 ad ce μ H.size) (Value.ref (ad o) :: As).toArray U := fun U hU hW9 => ⟨rfl, by rw [hU], by rw [hU]; exact hPc, va_K.moved hW9.alike hK, hDb, hsz, by rw [hU]; exact gk_warm hW9 hgH⟩
  refine va_calld (va_runV (rest := st) ⟨C.1, C.2.1, C.2.2.2.2.2.2.1, C.2.2.2.1, hts⟩ hM9 ⟨callB_of nA hts (gT_in hca.2.1) rfl rfl rfl (hts _ hca.1) (hts _ m1) hca.2.2 hR, hts _ hcv.1, hts _ hcv.2⟩ ⟨(fun a U g mk q => by obtain ⟨q0, q1, qP, qK, qD, q2, q3⟩ := q; exact ⟨q0, q1, qP, va_K.moved (u := U) (U := U.calling g mk a) (Vm.Alike.refl U.vm) qK, qD, q2, gk_same (u := U) (U := U.calling g mk a) rfl q3⟩), (by have h9 := va_recv hK hPc hc ((wl_get ho).trans (by rw [he])); rw [hcl] at h9; exact h9), hpreV⟩ rfl hn hl.1 rfl (lv_room hW) d hf) hS (fun q _ h => hF q h) hF (fun r9 u t H1 locs1 ht hvm hw hB hz1 hk1 hS1 => ?_)
  obtain ⟨hP1, hK1, hD1⟩ := hB
  rw [ht] at hP1
  rw [hw]
  obtain ⟨hP2, hD2⟩ := yjl_ hP hD hk1 hF hP1 hD1
  exact kk a9 h H1 locs1 ls (by rw [wl_x hce]; exact hP2) (by rw [wl_x hce]; exact hD2) hS1 hl
theorem xe_cVfp {ce2 : Nat → (Int → Int) → va_E} {x : Nat} (C : cx_ G X cc own rm ret nl) (p1 : Nat) (hp : pc + 3 = p1) (hce : ∀ k, k ≠ 151 → ∀ row, ce2 k row = ce k row) {F : Option UInt32} {f : UInt32 → Option α} {y : MethodName} {bytes : ByteArray} {maxL nA index : Nat} {ret2 : Option FieldType} {rm2 : Room} {As : List Value} {ci o : Nat} {fs : List Value} {qc : vw_C} (ho : o < 151) (he : ce o (μ o) = .inr (ci, fs)) (hc : vwCl[ci]? = some qc) (hcl : qc.1 = y.cls) (hca : ca_ y bytes maxL ret2 nA) (hcv : cv_ y) (m1 : Cond.methodLink own index y ∈ gT_) (hn : As.length = nA) (hR : rm2.frames + 1 ≤ rm.frames ∧ 8 + (maxL + 11) + rm2.locals ≤ rm.locals) (hf : k + rm2.cells ≤ rm.cells ∧ n + rm2.slots ≤ rm.slots) (hW : (st.map fun v => v.category).sum ≤ 8) (d : decode cc pc = .ok (.invokevirtual index, 3)) (hM : ∀ a, F = some a → mf_ y bytes maxL ret2 rm2 G 151 ad ce (.ref (ad o) :: As) μ a μ) (h : bd_ F f = some r) (kk : ∀ a, f a = some r → wx_ G X 152 (a9_ ad x) ce2 μ (k + rm2.cells) (n + rm2.slots) p1 lv (.float a :: st)) (hst : stk = As.reverse ++ .ref (ad o) :: st) : wx_ G X 152 (a9_ ad x) ce2 μ k n pc lv stk := by
  obtain ⟨p, l, e, R, s, m, args, below, meth, c, Q, A, nL⟩ := X
  intro H locs ls hP hD hS hl
  rw [wl_x hce] at hP hD
  subst hp
  have hts := C.2.2.1
  have hK := C.2.2.2.2.1
  have hA := C.2.2.2.2.2.1
  have hAb := C.2.2.2.2.2.2.2.2.1
  have hR' : R = rm := C.2.2.2.2.2.2.2.2.2.1
  have hg := C.2.2.2.2.2.2.2.2.2.2.2.1
  subst hR'
  have hsz : G.2.2 ≤ H.size := by
    have h1 := hAb s.heap.size (hA _ (Nat.le_refl _))
    exact Nat.le_trans h1 hS.1
  have hPc : va_P G.1 vwCl (wl_ 151 ad ce μ) H := yP_l hP
  have hDc : va_D A (wl_ 151 ad ce μ) := yD_l hD
  have hDb : va_D (fun q => G.2.2 ≤ q) (wl_ 151 ad ce μ) := hDc.weaken (fun _ q _ h => hAb q.1 h)
  have hgH : gk_ G s H := gk_kept hg (fun a h1 h2 => hS.2.1 a h1 (fun q => h2 (hAb a q)))
  have hF : ∀ q, va_A (wl_ 151 ad ce μ) H.size q → A q := fun q h => by
    rcases h with ⟨j, e9, h⟩ | h
    · exact hDc.2 j _ h
    · exact hA q (Nat.le_trans hS.1 h)
  subst hst
  obtain ⟨a9, e9, h⟩ := bd_e h
  have hM9 := hM a9 e9 l H.size
  have hpreV : ∀ U : State, U.heap = H → s.WarmedH U.vm → va_Pc (.ref (ad o) :: As) (pr_ G 151 ad ce μ H.size) (Value.ref (ad o) :: As).toArray U := fun U hU hW9 => ⟨rfl, by rw [hU], by rw [hU]; exact hPc, va_K.moved hW9.alike hK, hDb, hsz, by rw [hU]; exact gk_warm hW9 hgH⟩
  refine va_callf (va_runV (rest := st) ⟨C.1, C.2.1, C.2.2.2.2.2.2.1, C.2.2.2.1, hts⟩ hM9 ⟨callB_of nA hts (gT_in hca.2.1) rfl rfl rfl (hts _ hca.1) (hts _ m1) hca.2.2 hR, hts _ hcv.1, hts _ hcv.2⟩ ⟨(fun a U g mk q => by obtain ⟨q0, q1, qP, qK, qD, q2, q3⟩ := q; exact ⟨q0, q1, qP, va_K.moved (u := U) (U := U.calling g mk a) (Vm.Alike.refl U.vm) qK, qD, q2, gk_same (u := U) (U := U.calling g mk a) rfl q3⟩), (by have h9 := va_recv hK hPc hc ((wl_get ho).trans (by rw [he])); rw [hcl] at h9; exact h9), hpreV⟩ rfl hn hl.1 rfl (lv_room hW) d hf) hS (fun q _ h => hF q h) hF (fun r9 u t H1 locs1 ht hvm hw hB hz1 hk1 hS1 => ?_)
  obtain ⟨hP1, hK1, hD1⟩ := hB
  rw [ht] at hP1
  rw [hw]
  obtain ⟨hP2, hD2⟩ := yjl_ hP hD hk1 hF hP1 hD1
  exact kk a9 h H1 locs1 ls (by rw [wl_x hce]; exact hP2) (by rw [wl_x hce]; exact hD2) hS1 hl
theorem xe_cSlp {ce2 : Nat → (Int → Int) → va_E} {x : Nat} (C : cx_ G X cc own rm ret nl) (p1 : Nat) (hp : pc + 3 = p1) (hce : ∀ k, k ≠ 151 → ∀ row, ce2 k row = ce k row) {F : Option Int} {f : Int → Option α} {y : MethodName} {bytes : ByteArray} {maxL nA index : Nat} {ret2 : Option FieldType} {rm2 : Room} {As : List Value} (hca : ca_ y bytes maxL ret2 nA) (hcv : Cond.static y ∈ gT_) (m1 : Cond.methodLink own index y ∈ gT_) (hn : As.length = nA) (hR : rm2.frames + 1 ≤ rm.frames ∧ 8 + (maxL + 11) + rm2.locals ≤ rm.locals) (hf : k + rm2.cells ≤ rm.cells ∧ n + rm2.slots ≤ rm.slots) (hW : (st.map fun v => v.category).sum ≤ 8) (d : decode cc pc = .ok (.invokestatic index, 3)) (hM : ∀ a, F = some a → ml_ y bytes maxL ret2 rm2 G 151 ad ce (As) μ a μ) (h : bd_ F f = some r) (kk : ∀ a, f a = some r → wx_ G X 152 (a9_ ad x) ce2 μ (k + rm2.cells) (n + rm2.slots) p1 lv (.long (iL a) :: st)) (hst : stk = As.reverse ++ st) : wx_ G X 152 (a9_ ad x) ce2 μ k n pc lv stk := by
  obtain ⟨p, l, e, R, s, m, args, below, meth, c, Q, A, nL⟩ := X
  intro H locs ls hP hD hS hl
  rw [wl_x hce] at hP hD
  subst hp
  have hts := C.2.2.1
  have hK := C.2.2.2.2.1
  have hA := C.2.2.2.2.2.1
  have hAb := C.2.2.2.2.2.2.2.2.1
  have hR' : R = rm := C.2.2.2.2.2.2.2.2.2.1
  have hg := C.2.2.2.2.2.2.2.2.2.2.2.1
  subst hR'
  have hsz : G.2.2 ≤ H.size := by
    have h1 := hAb s.heap.size (hA _ (Nat.le_refl _))
    exact Nat.le_trans h1 hS.1
  have hPc : va_P G.1 vwCl (wl_ 151 ad ce μ) H := yP_l hP
  have hDc : va_D A (wl_ 151 ad ce μ) := yD_l hD
  have hDb : va_D (fun q => G.2.2 ≤ q) (wl_ 151 ad ce μ) := hDc.weaken (fun _ q _ h => hAb q.1 h)
  have hgH : gk_ G s H := gk_kept hg (fun a h1 h2 => hS.2.1 a h1 (fun q => h2 (hAb a q)))
  have hF : ∀ q, va_A (wl_ 151 ad ce μ) H.size q → A q := fun q h => by
    rcases h with ⟨j, e9, h⟩ | h
    · exact hDc.2 j _ h
    · exact hA q (Nat.le_trans hS.1 h)
  subst hst
  obtain ⟨a9, e9, h⟩ := bd_e h
  have hM9 := hM a9 e9 l H.size
  have hpreV : ∀ U : State, U.heap = H → s.WarmedH U.vm → va_Pc (As) (pr_ G 151 ad ce μ H.size) (As).toArray U := fun U hU hW9 => ⟨rfl, by rw [hU], by rw [hU]; exact hPc, va_K.moved hW9.alike hK, hDb, hsz, by rw [hU]; exact gk_warm hW9 hgH⟩
  refine va_calll (va_runS (rest := st) ⟨C.1, C.2.1, C.2.2.2.2.2.2.1, C.2.2.2.1, hts⟩ hM9 ⟨callB_of nA hts (gT_in hca.2.1) rfl rfl rfl (hts _ hca.1) (hts _ m1) hca.2.2 hR, hts _ hcv⟩ ⟨(fun a U g mk q => by obtain ⟨q0, q1, qP, qK, qD, q2, q3⟩ := q; exact ⟨q0, q1, qP, va_K.moved (u := U) (U := U.calling g mk a) (Vm.Alike.refl U.vm) qK, qD, q2, gk_same (u := U) (U := U.calling g mk a) rfl q3⟩), hpreV⟩ rfl hn hl.1 rfl (lv_room hW) d hf) hS (fun q _ h => hF q h) hF (fun r9 u t H1 locs1 ht hvm hw hB hz1 hk1 hS1 => ?_)
  obtain ⟨hP1, hK1, hD1⟩ := hB
  rw [ht] at hP1
  rw [hw]
  obtain ⟨hP2, hD2⟩ := yjl_ hP hD hk1 hF hP1 hD1
  exact kk a9 h H1 locs1 ls (by rw [wl_x hce]; exact hP2) (by rw [wl_x hce]; exact hD2) hS1 hl
theorem xe_zret {ce2 : Nat → (Int → Int) → va_E} {x : Nat} (hce : ∀ k, k ≠ 151 → ∀ row, ce2 k row = ce k row) (C : cx_ G X cc own rm ret nl) {e0 a : Int} {μ2 : mu_T} {ty : FieldType} (E : ei_ G X 151 ad ce a μ2 rm) (hr : ret = some ty) (hz : narrow ty (.int (iI e0)) = .int (iI e0)) (hk : k ≤ rm.cells ∧ n ≤ rm.slots) (d : decode cc pc = .ok (.ireturn, 1)) (h : some (e0, μ) = some (a, μ2)) : wx_ G X 152 (a9_ ad x) ce2 μ k n pc lv [.int (iI e0)] := by
  obtain ⟨p, l, e, R, s, m, args, below, meth, c, Q, A, nL⟩ := X
  intro H locs ls hP hD hS hl
  rw [wl_x hce] at hP hD
  have hP := yP_l hP
  have hD := yD_l hD
  obtain ⟨rfl, rfl⟩ := Prod.mk.inj (Option.some.inj h)
  obtain ⟨hx, hb, -, -, hK, -, -, hlocks, -, -, hrt, -, -⟩ := C
  subst hr
  rw [show Q = _ from E]
  refine W.widen hk.1 hk.2 ?_
  exact W.zret hx hb hrt hz (fun t ht hW => ⟨⟨_, (), rfl, rfl, by rw [ht]; exact hP, va_K.moved hW.alike hK, hD⟩, hS.F ht⟩) hS.2.2 d hlocks

end XU
