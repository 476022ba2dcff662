/-! rows over wx_ (written by wip/gen/rows.py) -/
/-- a switch on numbers: the branches by their values -/
def tw_ {α : Type} (a : Int) : List Int → List (Option α) → Option α → Option α
  | v :: vs, b :: bs, df => if a = v then b else tw_ a vs bs df
  | _, _, df => df
def ts_ {α : Type} (a : Int) (vs : List Int) (bs : List (Option α)) (df : Option α) : Option α := if rg_ a then tw_ a vs bs df else none
def ti_ (a : Int) : List Int → List Nat → Nat → Nat
  | v :: vs, t :: ts, tD => if a = v then t else ti_ a vs ts tD
  | _, _, tD => tD
def tk_ (pc : Nat) (dflt lo hi : Int) (offs : List Int) (vs : List Int) (ts : List Nat) (tD : Nat) : Bool :=
  decide ((pc : Int) + dflt = (tD : Int)) && decide (lo + offs.length = hi + 1) && decide (vs.length = ts.length) && (List.range offs.length).all (fun i => decide ((pc : Int) + offs.getD i 0 = ((ti_ (lo + i) vs ts tD : Nat) : Int))) && (List.range vs.length).all (fun i => decide (lo ≤ vs.getD i 0 ∧ vs.getD i 0 ≤ hi ∧ ti_ (vs.getD i 0) vs ts tD = ts.getD i 0))
theorem ti_no (a : Int) : ∀ (vs : List Int) (ts : List Nat) (tD : Nat), (∀ v ∈ vs, a ≠ v) → ti_ a vs ts tD = tD
  | [], _, _, _ => by unfold ti_; rfl
  | v :: vs, [], _, _ => by unfold ti_; rfl
  | v :: vs, t :: ts, tD, h => by
    unfold ti_
    rw [if_neg (h v List.mem_cons_self)]
    exact ti_no a vs ts tD (fun w hw => h w (List.mem_cons_of_mem _ hw))
theorem tk_p {pc : Nat} {dflt lo hi : Int} {offs vs : List Int} {ts : List Nat} {tD : Nat} (h : tk_ pc dflt lo hi offs vs ts tD = true) : (pc : Int) + dflt = (tD : Int) ∧ lo + offs.length = hi + 1 ∧ vs.length = ts.length ∧ (∀ i, i < offs.length → (pc : Int) + offs.getD i 0 = ((ti_ (lo + i) vs ts tD : Nat) : Int)) ∧ ∀ i, i < vs.length → lo ≤ vs.getD i 0 ∧ vs.getD i 0 ≤ hi ∧ ti_ (vs.getD i 0) vs ts tD = ts.getD i 0 := by
  simp only [tk_, Bool.and_eq_true, decide_eq_true_eq, List.all_eq_true, List.mem_range] at h
  exact ⟨h.1.1.1.1, h.1.1.1.2, h.1.1.2, h.1.2, h.2⟩
theorem tk_d {pc : Nat} {dflt lo hi : Int} {offs vs : List Int} {ts : List Nat} {tD : Nat} (h : tk_ pc dflt lo hi offs vs ts tD = true) : (pc : Int) + dflt = (tD : Int) := (tk_p h).1
theorem tk_o {pc : Nat} {dflt lo hi : Int} {offs vs : List Int} {ts : List Nat} {tD : Nat} (h : tk_ pc dflt lo hi offs vs ts tD = true) {a : Int} (ha : lo ≤ a ∧ a ≤ hi) (hno : ∀ v ∈ vs, a ≠ v) : ∃ off, offs[(a - lo).toNat]? = some off ∧ (pc : Int) + off = (tD : Int) := by
  obtain ⟨-, h2, -, h4, -⟩ := tk_p h
  have hi : (a - lo).toNat < offs.length := by omega
  refine ⟨offs.getD (a - lo).toNat 0, ?_, ?_⟩
  · rw [List.getD_eq_getElem?_getD, List.getElem?_eq_getElem hi]; rfl
  · rw [h4 _ hi, show lo + (((a - lo).toNat : Nat) : Int) = a by omega, ti_no a vs ts tD hno]
theorem tk_i {pc : Nat} {dflt lo hi : Int} {offs vs : List Int} {ts : List Nat} {tD : Nat} (h : tk_ pc dflt lo hi offs vs ts tD = true) {i : Nat} {a : Int} (ha : vs[i]? = some a) : ∃ t off, ts[i]? = some t ∧ offs[(a - lo).toNat]? = some off ∧ (pc : Int) + off = (t : Int) ∧ lo ≤ a ∧ a ≤ hi := by
  obtain ⟨-, h2, h3, h4, h5⟩ := tk_p h
  have hiv : i < vs.length := (List.getElem?_eq_some_iff.mp ha).1
  have hg : vs.getD i 0 = a := by rw [List.getD_eq_getElem?_getD, ha]; rfl
  obtain ⟨q1, q2, q3⟩ := h5 i hiv
  rw [hg] at q1 q2 q3
  have hi : (a - lo).toNat < offs.length := by omega
  refine ⟨ts.getD i 0, offs.getD (a - lo).toNat 0, ?_, ?_, ?_, q1, q2⟩
  · rw [List.getD_eq_getElem?_getD, List.getElem?_eq_getElem (by omega)]; rfl
  · rw [List.getD_eq_getElem?_getD, List.getElem?_eq_getElem hi]; rfl
  · rw [h4 _ hi, show lo + (((a - lo).toNat : Nat) : Int) = a by omega, q3]
theorem tw_e {α : Type} {a : Int} {r : α} {df : Option α} : ∀ (vs : List Int) (bs : List (Option α)), tw_ a vs bs df = some r → ((∀ v ∈ vs.take bs.length, a ≠ v) ∧ df = some r) ∨ ∃ (i : Nat) (b : Option α), vs[i]? = some a ∧ bs[i]? = some b ∧ b = some r
  | [], bs, h => Or.inl ⟨fun v hv => by simp at hv, by unfold tw_ at h; exact h⟩
  | v :: vs, [], h => Or.inl ⟨fun v hv => by simp at hv, by unfold tw_ at h; exact h⟩
  | v :: vs, b :: bs, h => by
    unfold tw_ at h
    split at h
    next hc => exact Or.inr ⟨0, b, by rw [hc]; rfl, rfl, h⟩
    next hc =>
      rcases tw_e vs bs h with ⟨h1, h2⟩ | ⟨i, b, h1, h2, h3⟩
      · refine Or.inl ⟨fun w hw => ?_, h2⟩
        rcases List.mem_cons.mp (by simpa using hw) with rfl | hw
        · exact hc
        · exact h1 w hw
      · exact Or.inr ⟨i + 1, b, h1, h2, h3⟩
theorem tw_e2 {α : Type} {a : Int} {r : α} {df : Option α} {vs : List Int} {bs : List (Option α)} (hl : vs.length = bs.length) (h : tw_ a vs bs df = some r) : ((∀ v ∈ vs, a ≠ v) ∧ df = some r) ∨ ∃ (i : Nat) (b : Option α), vs[i]? = some a ∧ bs[i]? = some b ∧ b = some r := by
  have h1 := tw_e vs bs h
  rw [← hl, List.take_length] at h1
  exact h1
section XR
variable {G : gp_} {X : ct_} {N : Nat} {ad : Nat → Nat} {ce : Nat → (Int → Int) → va_E} {μ : mu_T} {k n pc : Nat} {lv lv1 : List (Nat × Value)} {st stk : List Value} {cc : ByteArray} {own : String} {rm : Room} {ret : Option FieldType} {nl : Nat} {α : Type} {r : α}
theorem xx_iconst (C : cx_ G X cc own rm ret nl) (p1 : Nat) (hp : pc + 1 = p1) {v : Int} (d : decode cc pc = .ok (.iconst v, 1))  (h : wx_ G X N ad ce μ k n p1 lv (.int (iI v) :: st)) : wx_ G X N ad ce μ k n pc lv st := by
  obtain ⟨p, l, e, R, s, m, args, below, meth, c, Q, A, nL⟩ := X
  intro H locs ls hP hD hS hl
  subst hp
  refine lv_iconst C.1 C.2.1 d rfl ?_
  exact h H locs ls hP hD hS hl
theorem xx_bipush (C : cx_ G X cc own rm ret nl) (p1 : Nat) (hp : pc + 2 = p1) {v : Int} (d : decode cc pc = .ok (.bipush v, 2)) (hv : (Int8.ofInt v).toInt32 = iI v) (h : wx_ G X N ad ce μ k n p1 lv (.int (iI v) :: st)) : wx_ G X N ad ce μ k n pc lv st := by
  obtain ⟨p, l, e, R, s, m, args, below, meth, c, Q, A, nL⟩ := X
  intro H locs ls hP hD hS hl
  subst hp
  refine lv_bipush C.1 C.2.1 d hv ?_
  exact h H locs ls hP hD hS hl
theorem xx_sipush (C : cx_ G X cc own rm ret nl) (p1 : Nat) (hp : pc + 3 = p1) {v : Int} (d : decode cc pc = .ok (.sipush v, 3)) (hv : (Int16.ofInt v).toInt32 = iI v) (h : wx_ G X N ad ce μ k n p1 lv (.int (iI v) :: st)) : wx_ G X N ad ce μ k n pc lv st := by
  obtain ⟨p, l, e, R, s, m, args, below, meth, c, Q, A, nL⟩ := X
  intro H locs ls hP hD hS hl
  subst hp
  refine lv_sipush C.1 C.2.1 d hv ?_
  exact h H locs ls hP hD hS hl
theorem xx_iadd (C : cx_ G X cc own rm ret nl) (p1 : Nat) (hp : pc + 1 = p1) {a b : Int} (d : decode cc pc = .ok (.iadd, 1))  (h : wx_ G X N ad ce μ k n p1 lv (.int (iI (a + b)) :: st)) : wx_ G X N ad ce μ k n pc lv (.int (iI b) :: .int (iI a) :: st) := by
  obtain ⟨p, l, e, R, s, m, args, below, meth, c, Q, A, nL⟩ := X
  intro H locs ls hP hD hS hl
  subst hp
  refine lv_iadd C.1 C.2.1 d ?_
  rw [iI_add]
  exact h H locs ls hP hD hS hl
theorem xx_isub (C : cx_ G X cc own rm ret nl) (p1 : Nat) (hp : pc + 1 = p1) {a b : Int} (d : decode cc pc = .ok (.isub, 1))  (h : wx_ G X N ad ce μ k n p1 lv (.int (iI (a - b)) :: st)) : wx_ G X N ad ce μ k n pc lv (.int (iI b) :: .int (iI a) :: st) := by
  obtain ⟨p, l, e, R, s, m, args, below, meth, c, Q, A, nL⟩ := X
  intro H locs ls hP hD hS hl
  subst hp
  refine lv_isub C.1 C.2.1 d ?_
  rw [iI_sub]
  exact h H locs ls hP hD hS hl
theorem xx_imul (C : cx_ G X cc own rm ret nl) (p1 : Nat) (hp : pc + 1 = p1) {a b : Int} (d : decode cc pc = .ok (.imul, 1))  (h : wx_ G X N ad ce μ k n p1 lv (.int (iI (a * b)) :: st)) : wx_ G X N ad ce μ k n pc lv (.int (iI b) :: .int (iI a) :: st) := by
  obtain ⟨p, l, e, R, s, m, args, below, meth, c, Q, A, nL⟩ := X
  intro H locs ls hP hD hS hl
  subst hp
  refine lv_imul C.1 C.2.1 d ?_
  rw [iI_mul]
  exact h H locs ls hP hD hS hl
theorem xx_ineg (C : cx_ G X cc own rm ret nl) (p1 : Nat) (hp : pc + 1 = p1) {a : Int} (d : decode cc pc = .ok (.ineg, 1))  (h : wx_ G X N ad ce μ k n p1 lv (.int (iI (-a)) :: st)) : wx_ G X N ad ce μ k n pc lv (.int (iI a) :: st) := by
  obtain ⟨p, l, e, R, s, m, args, below, meth, c, Q, A, nL⟩ := X
  intro H locs ls hP hD hS hl
  subst hp
  refine lv_ineg C.1 C.2.1 d ?_
  rw [iI_neg]
  exact h H locs ls hP hD hS hl
theorem xx_iand (C : cx_ G X cc own rm ret nl) (p1 : Nat) (hp : pc + 1 = p1) {a b : Int} (d : decode cc pc = .ok (.iand, 1))  (h : wx_ G X N ad ce μ k n p1 lv (.int (iI (an_ a b)) :: st)) : wx_ G X N ad ce μ k n pc lv (.int (iI b) :: .int (iI a) :: st) := by
  obtain ⟨p, l, e, R, s, m, args, below, meth, c, Q, A, nL⟩ := X
  intro H locs ls hP hD hS hl
  subst hp
  refine lv_iand C.1 C.2.1 d ?_
  rw [show iI a &&& iI b = iI (an_ a b) from (iI_of _).symm]
  exact h H locs ls hP hD hS hl
theorem xx_ior (C : cx_ G X cc own rm ret nl) (p1 : Nat) (hp : pc + 1 = p1) {a b : Int} (d : decode cc pc = .ok (.ior, 1))  (h : wx_ G X N ad ce μ k n p1 lv (.int (iI (or_ a b)) :: st)) : wx_ G X N ad ce μ k n pc lv (.int (iI b) :: .int (iI a) :: st) := by
  obtain ⟨p, l, e, R, s, m, args, below, meth, c, Q, A, nL⟩ := X
  intro H locs ls hP hD hS hl
  subst hp
  refine lv_ior C.1 C.2.1 d ?_
  rw [show iI a ||| iI b = iI (or_ a b) from (iI_of _).symm]
  exact h H locs ls hP hD hS hl
theorem xx_ixor (C : cx_ G X cc own rm ret nl) (p1 : Nat) (hp : pc + 1 = p1) {a b : Int} (d : decode cc pc = .ok (.ixor, 1))  (h : wx_ G X N ad ce μ k n p1 lv (.int (iI (xo_ a b)) :: st)) : wx_ G X N ad ce μ k n pc lv (.int (iI b) :: .int (iI a) :: st) := by
  obtain ⟨p, l, e, R, s, m, args, below, meth, c, Q, A, nL⟩ := X
  intro H locs ls hP hD hS hl
  subst hp
  refine lv_ixor C.1 C.2.1 d ?_
  rw [show iI a ^^^ iI b = iI (xo_ a b) from (iI_of _).symm]
  exact h H locs ls hP hD hS hl
theorem xx_ishl (C : cx_ G X cc own rm ret nl) (p1 : Nat) (hp : pc + 1 = p1) {a b : Int} (d : decode cc pc = .ok (.ishl, 1))  (h : wx_ G X N ad ce μ k n p1 lv (.int (iI (sl_ a b)) :: st)) : wx_ G X N ad ce μ k n pc lv (.int (iI b) :: .int (iI a) :: st) := by
  obtain ⟨p, l, e, R, s, m, args, below, meth, c, Q, A, nL⟩ := X
  intro H locs ls hP hD hS hl
  subst hp
  refine lv_ishl C.1 C.2.1 d ?_
  rw [show iI a <<< (iI b &&& 31) = iI (sl_ a b) from (iI_of _).symm]
  exact h H locs ls hP hD hS hl
theorem xx_ishr (C : cx_ G X cc own rm ret nl) (p1 : Nat) (hp : pc + 1 = p1) {a b : Int} (d : decode cc pc = .ok (.ishr, 1))  (h : wx_ G X N ad ce μ k n p1 lv (.int (iI (sr_ a b)) :: st)) : wx_ G X N ad ce μ k n pc lv (.int (iI b) :: .int (iI a) :: st) := by
  obtain ⟨p, l, e, R, s, m, args, below, meth, c, Q, A, nL⟩ := X
  intro H locs ls hP hD hS hl
  subst hp
  refine lv_ishr C.1 C.2.1 d ?_
  rw [show iI a >>> (iI b &&& 31) = iI (sr_ a b) from (iI_of _).symm]
  exact h H locs ls hP hD hS hl
theorem xx_iushr (C : cx_ G X cc own rm ret nl) (p1 : Nat) (hp : pc + 1 = p1) {a b : Int} (d : decode cc pc = .ok (.iushr, 1))  (h : wx_ G X N ad ce μ k n p1 lv (.int (iI (su_ a b)) :: st)) : wx_ G X N ad ce μ k n pc lv (.int (iI b) :: .int (iI a) :: st) := by
  obtain ⟨p, l, e, R, s, m, args, below, meth, c, Q, A, nL⟩ := X
  intro H locs ls hP hD hS hl
  subst hp
  refine lv_iushr C.1 C.2.1 d (iI_of _).symm ?_
  exact h H locs ls hP hD hS hl
theorem xx_i2c (C : cx_ G X cc own rm ret nl) (p1 : Nat) (hp : pc + 1 = p1) {a : Int} (d : decode cc pc = .ok (.i2c, 1))  (h : wx_ G X N ad ce μ k n p1 lv (.int (iI (i2c_ a)) :: st)) : wx_ G X N ad ce μ k n pc lv (.int (iI a) :: st) := by
  obtain ⟨p, l, e, R, s, m, args, below, meth, c, Q, A, nL⟩ := X
  intro H locs ls hP hD hS hl
  subst hp
  refine lv_i2c C.1 C.2.1 d (iI_of _).symm ?_
  exact h H locs ls hP hD hS hl
theorem xx_i2b (C : cx_ G X cc own rm ret nl) (p1 : Nat) (hp : pc + 1 = p1) {a : Int} (d : decode cc pc = .ok (.i2b, 1))  (h : wx_ G X N ad ce μ k n p1 lv (.int (iI (i2b_ a)) :: st)) : wx_ G X N ad ce μ k n pc lv (.int (iI a) :: st) := by
  obtain ⟨p, l, e, R, s, m, args, below, meth, c, Q, A, nL⟩ := X
  intro H locs ls hP hD hS hl
  subst hp
  refine lv_i2b C.1 C.2.1 d (iI_of _).symm ?_
  exact h H locs ls hP hD hS hl
theorem xx_dup (C : cx_ G X cc own rm ret nl) (p1 : Nat) (hp : pc + 1 = p1) {va : Value} (d : decode cc pc = .ok (.dup, 1)) (hva : va.category = 1) (h : wx_ G X N ad ce μ k n p1 lv (va :: va :: st)) : wx_ G X N ad ce μ k n pc lv (va :: st) := by
  obtain ⟨p, l, e, R, s, m, args, below, meth, c, Q, A, nL⟩ := X
  intro H locs ls hP hD hS hl
  subst hp
  refine lv_dup C.1 C.2.1 d hva ?_
  exact h H locs ls hP hD hS hl
theorem xx_pop (C : cx_ G X cc own rm ret nl) (p1 : Nat) (hp : pc + 1 = p1) {va : Value} (d : decode cc pc = .ok (.pop, 1)) (hva : va.category = 1) (h : wx_ G X N ad ce μ k n p1 lv st) : wx_ G X N ad ce μ k n pc lv (va :: st) := by
  obtain ⟨p, l, e, R, s, m, args, below, meth, c, Q, A, nL⟩ := X
  intro H locs ls hP hD hS hl
  subst hp
  refine lv_pop C.1 C.2.1 d hva ?_
  exact h H locs ls hP hD hS hl
theorem xx_dup_x1 (C : cx_ G X cc own rm ret nl) (p1 : Nat) (hp : pc + 1 = p1) {va vb : Value} (d : decode cc pc = .ok (.dup_x1, 1)) (hva : va.category = 1) (hvb : vb.category = 1) (h : wx_ G X N ad ce μ k n p1 lv (va :: vb :: va :: st)) : wx_ G X N ad ce μ k n pc lv (va :: vb :: st) := by
  obtain ⟨p, l, e, R, s, m, args, below, meth, c, Q, A, nL⟩ := X
  intro H locs ls hP hD hS hl
  subst hp
  refine lv_dup_x1 C.1 C.2.1 d hva hvb ?_
  exact h H locs ls hP hD hS hl
theorem xx_dup2 (C : cx_ G X cc own rm ret nl) (p1 : Nat) (hp : pc + 1 = p1) {va vb : Value} (d : decode cc pc = .ok (.dup2, 1)) (hva : va.category = 1) (hvb : vb.category = 1) (h : wx_ G X N ad ce μ k n p1 lv (va :: vb :: va :: vb :: st)) : wx_ G X N ad ce μ k n pc lv (va :: vb :: st) := by
  obtain ⟨p, l, e, R, s, m, args, below, meth, c, Q, A, nL⟩ := X
  intro H locs ls hP hD hS hl
  subst hp
  refine lv_dup2_11 C.1 C.2.1 d hva hvb ?_
  exact h H locs ls hP hD hS hl
theorem xx_i2d (C : cx_ G X cc own rm ret nl) (p1 : Nat) (hp : pc + 1 = p1) {a : Int} (d : decode cc pc = .ok (.i2d, 1))  (h : wx_ G X N ad ce μ k n p1 lv (.double (FP.i2d (iI a)) :: st)) : wx_ G X N ad ce μ k n pc lv (.int (iI a) :: st) := by
  obtain ⟨p, l, e, R, s, m, args, below, meth, c, Q, A, nL⟩ := X
  intro H locs ls hP hD hS hl
  subst hp
  refine lv_i2d C.1 C.2.1 d ?_
  exact h H locs ls hP hD hS hl
theorem xx_i2f (C : cx_ G X cc own rm ret nl) (p1 : Nat) (hp : pc + 1 = p1) {a : Int} (d : decode cc pc = .ok (.i2f, 1))  (h : wx_ G X N ad ce μ k n p1 lv (.float (FP.i2f (iI a)) :: st)) : wx_ G X N ad ce μ k n pc lv (.int (iI a) :: st) := by
  obtain ⟨p, l, e, R, s, m, args, below, meth, c, Q, A, nL⟩ := X
  intro H locs ls hP hD hS hl
  subst hp
  refine lv_i2f C.1 C.2.1 d ?_
  exact h H locs ls hP hD hS hl
theorem xx_dconst0 (C : cx_ G X cc own rm ret nl) (p1 : Nat) (hp : pc + 1 = p1)  (d : decode cc pc = .ok (.dconst 0, 1))  (h : wx_ G X N ad ce μ k n p1 lv (.double FP.dconst0 :: st)) : wx_ G X N ad ce μ k n pc lv st := by
  obtain ⟨p, l, e, R, s, m, args, below, meth, c, Q, A, nL⟩ := X
  intro H locs ls hP hD hS hl
  subst hp
  refine lv_dconst0 C.1 C.2.1 d ?_
  exact h H locs ls hP hD hS hl
theorem xx_fconst0 (C : cx_ G X cc own rm ret nl) (p1 : Nat) (hp : pc + 1 = p1)  (d : decode cc pc = .ok (.fconst 0, 1))  (h : wx_ G X N ad ce μ k n p1 lv (.float FP.fconst0 :: st)) : wx_ G X N ad ce μ k n pc lv st := by
  obtain ⟨p, l, e, R, s, m, args, below, meth, c, Q, A, nL⟩ := X
  intro H locs ls hP hD hS hl
  subst hp
  refine lv_fconst0 C.1 C.2.1 d ?_
  exact h H locs ls hP hD hS hl
theorem xx_iload_n (C : cx_ G X cc own rm ret nl) (p1 : Nat) (hp : pc + 1 = p1) (q : Nat) {kf : Fin 4} {j : Nat} {x : Int32} (d : decode cc pc = .ok (.iload_n kf, 1)) (hi : (kf : Nat) = j) (hq : lv[q]? = some (j, .int x)) (h : wx_ G X N ad ce μ k n p1 lv (.int x :: st)) : wx_ G X N ad ce μ k n pc lv st := by
  obtain ⟨p, l, e, R, s, m, args, below, meth, c, Q, A, nL⟩ := X
  intro H locs ls hP hD hS hl
  subst hp
  exact lv_iload_n C.1 C.2.1 d hi (lv_at hl q hq) (h H locs ls hP hD hS hl)
theorem xx_iload (C : cx_ G X cc own rm ret nl) (p1 : Nat) (hp : pc + 2 = p1) (q : Nat) {j : Nat} {x : Int32} (d : decode cc pc = .ok (.iload j, 2)) (hq : lv[q]? = some (j, .int x)) (h : wx_ G X N ad ce μ k n p1 lv (.int x :: st)) : wx_ G X N ad ce μ k n pc lv st := by
  obtain ⟨p, l, e, R, s, m, args, below, meth, c, Q, A, nL⟩ := X
  intro H locs ls hP hD hS hl
  subst hp
  exact lv_iload C.1 C.2.1 d (lv_at hl q hq) (h H locs ls hP hD hS hl)
theorem xx_istore_n (C : cx_ G X cc own rm ret nl) (p1 : Nat) (hp : pc + 1 = p1) {kf : Fin 4} {j : Nat} {x : Int32} (hn : j < nl) (d : decode cc pc = .ok (.istore_n kf, 1)) (hi : (kf : Nat) = j) (hf : (j, Value.int x) :: lv.filter (fun q => !(q.1 == j) && !(q.1 + 1 == j && q.2.category == 2)) = lv1) (h : wx_ G X N ad ce μ k n p1 lv1 st) : wx_ G X N ad ce μ k n pc lv (.int x :: st) := by
  obtain ⟨p, l, e, R, s, m, args, below, meth, c, Q, A, nL⟩ := X
  intro H locs ls hP hD hS hl
  subst hp
  exact lv_istore_n C.1 C.2.1 d hi hl (C.2.2.2.2.2.2.2.2.2.2.2.2 ▸ hn) hf (fun ls hl => h H locs ls hP hD hS hl)
theorem xx_istore (C : cx_ G X cc own rm ret nl) (p1 : Nat) (hp : pc + 2 = p1) {j : Nat} {x : Int32} (hn : j < nl) (d : decode cc pc = .ok (.istore j, 2)) (hf : (j, Value.int x) :: lv.filter (fun q => !(q.1 == j) && !(q.1 + 1 == j && q.2.category == 2)) = lv1) (h : wx_ G X N ad ce μ k n p1 lv1 st) : wx_ G X N ad ce μ k n pc lv (.int x :: st) := by
  obtain ⟨p, l, e, R, s, m, args, below, meth, c, Q, A, nL⟩ := X
  intro H locs ls hP hD hS hl
  subst hp
  exact lv_istore C.1 C.2.1 d hl (C.2.2.2.2.2.2.2.2.2.2.2.2 ▸ hn) hf (fun ls hl => h H locs ls hP hD hS hl)
theorem xx_aload_n (C : cx_ G X cc own rm ret nl) (p1 : Nat) (hp : pc + 1 = p1) (q : Nat) {kf : Fin 4} {j : Nat} {x : Nat} (d : decode cc pc = .ok (.aload_n kf, 1)) (hi : (kf : Nat) = j) (hq : lv[q]? = some (j, .ref x)) (h : wx_ G X N ad ce μ k n p1 lv (.ref x :: st)) : wx_ G X N ad ce μ k n pc lv st := by
  obtain ⟨p, l, e, R, s, m, args, below, meth, c, Q, A, nL⟩ := X
  intro H locs ls hP hD hS hl
  subst hp
  exact lv_aload_n C.1 C.2.1 d hi (lv_at hl q hq) (h H locs ls hP hD hS hl)
theorem xx_aload (C : cx_ G X cc own rm ret nl) (p1 : Nat) (hp : pc + 2 = p1) (q : Nat) {j : Nat} {x : Nat} (d : decode cc pc = .ok (.aload j, 2)) (hq : lv[q]? = some (j, .ref x)) (h : wx_ G X N ad ce μ k n p1 lv (.ref x :: st)) : wx_ G X N ad ce μ k n pc lv st := by
  obtain ⟨p, l, e, R, s, m, args, below, meth, c, Q, A, nL⟩ := X
  intro H locs ls hP hD hS hl
  subst hp
  exact lv_aload C.1 C.2.1 d (lv_at hl q hq) (h H locs ls hP hD hS hl)
theorem xx_astore_n (C : cx_ G X cc own rm ret nl) (p1 : Nat) (hp : pc + 1 = p1) {kf : Fin 4} {j : Nat} {x : Nat} (hn : j < nl) (d : decode cc pc = .ok (.astore_n kf, 1)) (hi : (kf : Nat) = j) (hf : (j, Value.ref x) :: lv.filter (fun q => !(q.1 == j) && !(q.1 + 1 == j && q.2.category == 2)) = lv1) (h : wx_ G X N ad ce μ k n p1 lv1 st) : wx_ G X N ad ce μ k n pc lv (.ref x :: st) := by
  obtain ⟨p, l, e, R, s, m, args, below, meth, c, Q, A, nL⟩ := X
  intro H locs ls hP hD hS hl
  subst hp
  exact lv_astore_n C.1 C.2.1 d hi hl (C.2.2.2.2.2.2.2.2.2.2.2.2 ▸ hn) hf (fun ls hl => h H locs ls hP hD hS hl)
theorem xx_astore (C : cx_ G X cc own rm ret nl) (p1 : Nat) (hp : pc + 2 = p1) {j : Nat} {x : Nat} (hn : j < nl) (d : decode cc pc = .ok (.astore j, 2)) (hf : (j, Value.ref x) :: lv.filter (fun q => !(q.1 == j) && !(q.1 + 1 == j && q.2.category == 2)) = lv1) (h : wx_ G X N ad ce μ k n p1 lv1 st) : wx_ G X N ad ce μ k n pc lv (.ref x :: st) := by
  obtain ⟨p, l, e, R, s, m, args, below, meth, c, Q, A, nL⟩ := X
  intro H locs ls hP hD hS hl
  subst hp
  exact lv_astore C.1 C.2.1 d hl (C.2.2.2.2.2.2.2.2.2.2.2.2 ▸ hn) hf (fun ls hl => h H locs ls hP hD hS hl)
theorem xx_iinc (C : cx_ G X cc own rm ret nl) (p1 : Nat) (hp : pc + 3 = p1) (q : Nat) {j : Nat} {v x : Int} (hn : j < nl) (d : decode cc pc = .ok (.iinc j v, 3)) (hq : lv[q]? = some (j, .int (iI x))) (hf : (j, Value.int (iI (x + v))) :: lv.filter (fun q => !(q.1 == j) && !(q.1 + 1 == j && q.2.category == 2)) = lv1) (h : wx_ G X N ad ce μ k n p1 lv1 st) : wx_ G X N ad ce μ k n pc lv st := by
  obtain ⟨p, l, e, R, s, m, args, below, meth, c, Q, A, nL⟩ := X
  intro H locs ls hP hD hS hl
  subst hp
  exact lv_iinc C.1 C.2.1 d hl hq (by rw [← iI_add]; rfl) (C.2.2.2.2.2.2.2.2.2.2.2.2 ▸ hn) hf (fun ls hl => h H locs ls hP hD hS hl)
theorem xx_iincn (C : cx_ G X cc own rm ret nl) (p1 : Nat) (hp : pc + 3 = p1) (q : Nat) {j : Nat} {v x : Int} {f : Int → Option α} (hn : j < nl) (d : decode cc pc = .ok (.iinc j v, 3)) (hq : lv[q]? = some (j, .int (iI x))) (h : nm_ (x + v) f = some r) (kk : ∀ x1, f x1 = some r → wx_ G X N ad ce μ k n p1 ((j, Value.int (iI x1)) :: lv.filter (fun q => !(q.1 == j) && !(q.1 + 1 == j && q.2.category == 2))) st) : wx_ G X N ad ce μ k n pc lv st := by
  obtain ⟨p, l, e, R, s, m, args, below, meth, c, Q, A, nL⟩ := X
  intro H locs ls hP hD hS hl
  subst hp
  exact lv_iinc C.1 C.2.1 d hl hq (by rw [← iI_add]; rfl) (C.2.2.2.2.2.2.2.2.2.2.2.2 ▸ hn) rfl (fun ls hl => kk _ h H locs ls hP hD hS hl)
theorem xx_lv (e : lv = lv1) (h : wx_ G X N ad ce μ k n pc lv1 st) : wx_ G X N ad ce μ k n pc lv st := e ▸ h
theorem nn_ {P : Prop} (h : (none : Option α) = some r) : P := by cases h
theorem xx_nm (C : cx_ G X cc own rm ret nl) {v : Int} {f : Int → Option α} (h : nm_ v f = some r) (kk : ∀ x, f x = some r → wx_ G X N ad ce μ k n pc lv (.int (iI x) :: st)) : wx_ G X N ad ce μ k n pc lv (.int (iI v) :: st) := by
  obtain ⟨p, l, e, R, s, m, args, below, meth, c, Q, A, nL⟩ := X
  intro H locs ls hP hD hS hl
  exact kk v h H locs ls hP hD hS hl
theorem xx_sub (ks : List Nat) (hlv : lv_pick lv ks = lv1) (h : wx_ G X N ad ce μ k n pc lv1 st) : wx_ G X N ad ce μ k n pc lv st := by
  obtain ⟨p, l, e, R, s, m, args, below, meth, c, Q, A, nL⟩ := X
  intro H locs ls hP hD hS hl
  exact h H locs ls hP hD hS (lv_sub hl ks hlv)
theorem xx_goto (C : cx_ G X cc own rm ret nl) {off : Int} (tgt : Nat) (d : decode cc pc = .ok (.goto off, 3)) (ht : (pc : Int) + off = (tgt : Int)) (h : wx_ G X N ad ce μ k n tgt lv st) : wx_ G X N ad ce μ k n pc lv st := by
  obtain ⟨p, l, e, R, s, m, args, below, meth, c, Q, A, nL⟩ := X
  intro H locs ls hP hD hS hl
  exact lv_goto C.1 C.2.1 d ht (h H locs ls hP hD hS hl)
theorem xx_icmp_lt (C : cx_ G X cc own rm ret nl) (p1 : Nat) (hp : pc + 3 = p1) {a b : Int} {off : Int} {tgt : Nat} {t f : Option α} (d : decode cc pc = .ok (.if_icmp .lt off, 3)) (ht : (pc : Int) + off = (tgt : Int)) (h : lt_ a b t f = some r) (k1 : t = some r → wx_ G X N ad ce μ k n tgt lv st) (k2 : f = some r → wx_ G X N ad ce μ k n p1 lv st) : wx_ G X N ad ce μ k n pc lv (.int (iI b) :: .int (iI a) :: st) := by
  obtain ⟨p, l, e, R, s, m, args, below, meth, c, Q, A, nL⟩ := X
  intro H locs ls hP hD hS hl
  subst hp
  obtain ⟨hr, ⟨hc, hh⟩ | ⟨hc, hh⟩⟩ := lt_e h
  · exact lv_icmp_lt C.1 C.2.1 d ht (fun _ => k1 hh H locs ls hP hD hS hl) (fun q => absurd ((iI_lt hr.1 hr.2).mpr hc) q)
  · exact lv_icmp_lt C.1 C.2.1 d ht (fun q => absurd ((iI_lt hr.1 hr.2).mp q) hc) (fun _ => k2 hh H locs ls hP hD hS hl)
theorem xx_if_lt (C : cx_ G X cc own rm ret nl) (p1 : Nat) (hp : pc + 3 = p1) {a : Int} {off : Int} {tgt : Nat} {t f : Option α} (d : decode cc pc = .ok (.ifCond .lt off, 3)) (ht : (pc : Int) + off = (tgt : Int)) (h : lt_ a 0 t f = some r) (k1 : t = some r → wx_ G X N ad ce μ k n tgt lv st) (k2 : f = some r → wx_ G X N ad ce μ k n p1 lv st) : wx_ G X N ad ce μ k n pc lv (.int (iI a) :: st) := by
  obtain ⟨p, l, e, R, s, m, args, below, meth, c, Q, A, nL⟩ := X
  intro H locs ls hP hD hS hl
  subst hp
  obtain ⟨hr, ⟨hc, hh⟩ | ⟨hc, hh⟩⟩ := lt_e h
  · exact lv_if_lt C.1 C.2.1 d ht (fun _ => k1 hh H locs ls hP hD hS hl) (fun q => absurd ((iI_lt hr.1 hr.2).mpr hc) q)
  · exact lv_if_lt C.1 C.2.1 d ht (fun q => absurd ((iI_lt hr.1 hr.2).mp q) hc) (fun _ => k2 hh H locs ls hP hD hS hl)
theorem xx_icmp_ge (C : cx_ G X cc own rm ret nl) (p1 : Nat) (hp : pc + 3 = p1) {a b : Int} {off : Int} {tgt : Nat} {t f : Option α} (d : decode cc pc = .ok (.if_icmp .ge off, 3)) (ht : (pc : Int) + off = (tgt : Int)) (h : lt_ a b f t = some r) (k1 : t = some r → wx_ G X N ad ce μ k n tgt lv st) (k2 : f = some r → wx_ G X N ad ce μ k n p1 lv st) : wx_ G X N ad ce μ k n pc lv (.int (iI b) :: .int (iI a) :: st) := by
  obtain ⟨p, l, e, R, s, m, args, below, meth, c, Q, A, nL⟩ := X
  intro H locs ls hP hD hS hl
  subst hp
  obtain ⟨hr, ⟨hc, hh⟩ | ⟨hc, hh⟩⟩ := lt_e h
  · exact lv_icmp_ge C.1 C.2.1 d ht (fun q => absurd ((iI_le hr.2 hr.1).mp q) (by omega)) (fun _ => k2 hh H locs ls hP hD hS hl)
  · exact lv_icmp_ge C.1 C.2.1 d ht (fun _ => k1 hh H locs ls hP hD hS hl) (fun q => absurd ((iI_le hr.2 hr.1).mpr (by omega)) q)
theorem xx_if_ge (C : cx_ G X cc own rm ret nl) (p1 : Nat) (hp : pc + 3 = p1) {a : Int} {off : Int} {tgt : Nat} {t f : Option α} (d : decode cc pc = .ok (.ifCond .ge off, 3)) (ht : (pc : Int) + off = (tgt : Int)) (h : lt_ a 0 f t = some r) (k1 : t = some r → wx_ G X N ad ce μ k n tgt lv st) (k2 : f = some r → wx_ G X N ad ce μ k n p1 lv st) : wx_ G X N ad ce μ k n pc lv (.int (iI a) :: st) := by
  obtain ⟨p, l, e, R, s, m, args, below, meth, c, Q, A, nL⟩ := X
  intro H locs ls hP hD hS hl
  subst hp
  obtain ⟨hr, ⟨hc, hh⟩ | ⟨hc, hh⟩⟩ := lt_e h
  · exact lv_if_ge C.1 C.2.1 d ht (fun q => absurd ((iI_le hr.2 hr.1).mp q) (by omega)) (fun _ => k2 hh H locs ls hP hD hS hl)
  · exact lv_if_ge C.1 C.2.1 d ht (fun _ => k1 hh H locs ls hP hD hS hl) (fun q => absurd ((iI_le hr.2 hr.1).mpr (by omega)) q)
theorem xx_icmp_gt (C : cx_ G X cc own rm ret nl) (p1 : Nat) (hp : pc + 3 = p1) {a b : Int} {off : Int} {tgt : Nat} {t f : Option α} (d : decode cc pc = .ok (.if_icmp .gt off, 3)) (ht : (pc : Int) + off = (tgt : Int)) (h : lt_ b a t f = some r) (k1 : t = some r → wx_ G X N ad ce μ k n tgt lv st) (k2 : f = some r → wx_ G X N ad ce μ k n p1 lv st) : wx_ G X N ad ce μ k n pc lv (.int (iI b) :: .int (iI a) :: st) := by
  obtain ⟨p, l, e, R, s, m, args, below, meth, c, Q, A, nL⟩ := X
  intro H locs ls hP hD hS hl
  subst hp
  obtain ⟨hr, ⟨hc, hh⟩ | ⟨hc, hh⟩⟩ := lt_e h
  · exact lv_icmp_gt C.1 C.2.1 d ht (fun _ => k1 hh H locs ls hP hD hS hl) (fun q => absurd ((iI_lt hr.1 hr.2).mpr hc) q)
  · exact lv_icmp_gt C.1 C.2.1 d ht (fun q => absurd ((iI_lt hr.1 hr.2).mp q) hc) (fun _ => k2 hh H locs ls hP hD hS hl)
theorem xx_if_gt (C : cx_ G X cc own rm ret nl) (p1 : Nat) (hp : pc + 3 = p1) {a : Int} {off : Int} {tgt : Nat} {t f : Option α} (d : decode cc pc = .ok (.ifCond .gt off, 3)) (ht : (pc : Int) + off = (tgt : Int)) (h : lt_ 0 a t f = some r) (k1 : t = some r → wx_ G X N ad ce μ k n tgt lv st) (k2 : f = some r → wx_ G X N ad ce μ k n p1 lv st) : wx_ G X N ad ce μ k n pc lv (.int (iI a) :: st) := by
  obtain ⟨p, l, e, R, s, m, args, below, meth, c, Q, A, nL⟩ := X
  intro H locs ls hP hD hS hl
  subst hp
  obtain ⟨hr, ⟨hc, hh⟩ | ⟨hc, hh⟩⟩ := lt_e h
  · exact lv_if_gt C.1 C.2.1 d ht (fun _ => k1 hh H locs ls hP hD hS hl) (fun q => absurd ((iI_lt hr.1 hr.2).mpr hc) q)
  · exact lv_if_gt C.1 C.2.1 d ht (fun q => absurd ((iI_lt hr.1 hr.2).mp q) hc) (fun _ => k2 hh H locs ls hP hD hS hl)
theorem xx_icmp_le (C : cx_ G X cc own rm ret nl) (p1 : Nat) (hp : pc + 3 = p1) {a b : Int} {off : Int} {tgt : Nat} {t f : Option α} (d : decode cc pc = .ok (.if_icmp .le off, 3)) (ht : (pc : Int) + off = (tgt : Int)) (h : lt_ b a f t = some r) (k1 : t = some r → wx_ G X N ad ce μ k n tgt lv st) (k2 : f = some r → wx_ G X N ad ce μ k n p1 lv st) : wx_ G X N ad ce μ k n pc lv (.int (iI b) :: .int (iI a) :: st) := by
  obtain ⟨p, l, e, R, s, m, args, below, meth, c, Q, A, nL⟩ := X
  intro H locs ls hP hD hS hl
  subst hp
  obtain ⟨hr, ⟨hc, hh⟩ | ⟨hc, hh⟩⟩ := lt_e h
  · exact lv_icmp_le C.1 C.2.1 d ht (fun q => absurd ((iI_le hr.2 hr.1).mp q) (by omega)) (fun _ => k2 hh H locs ls hP hD hS hl)
  · exact lv_icmp_le C.1 C.2.1 d ht (fun _ => k1 hh H locs ls hP hD hS hl) (fun q => absurd ((iI_le hr.2 hr.1).mpr (by omega)) q)
theorem xx_if_le (C : cx_ G X cc own rm ret nl) (p1 : Nat) (hp : pc + 3 = p1) {a : Int} {off : Int} {tgt : Nat} {t f : Option α} (d : decode cc pc = .ok (.ifCond .le off, 3)) (ht : (pc : Int) + off = (tgt : Int)) (h : lt_ 0 a f t = some r) (k1 : t = some r → wx_ G X N ad ce μ k n tgt lv st) (k2 : f = some r → wx_ G X N ad ce μ k n p1 lv st) : wx_ G X N ad ce μ k n pc lv (.int (iI a) :: st) := by
  obtain ⟨p, l, e, R, s, m, args, below, meth, c, Q, A, nL⟩ := X
  intro H locs ls hP hD hS hl
  subst hp
  obtain ⟨hr, ⟨hc, hh⟩ | ⟨hc, hh⟩⟩ := lt_e h
  · exact lv_if_le C.1 C.2.1 d ht (fun q => absurd ((iI_le hr.2 hr.1).mp q) (by omega)) (fun _ => k2 hh H locs ls hP hD hS hl)
  · exact lv_if_le C.1 C.2.1 d ht (fun _ => k1 hh H locs ls hP hD hS hl) (fun q => absurd ((iI_le hr.2 hr.1).mpr (by omega)) q)
theorem xx_icmp_eq (C : cx_ G X cc own rm ret nl) (p1 : Nat) (hp : pc + 3 = p1) {a b : Int} {off : Int} {tgt : Nat} {t f : Option α} (d : decode cc pc = .ok (.if_icmp .eq off, 3)) (ht : (pc : Int) + off = (tgt : Int)) (h : eq_ a b t f = some r) (k1 : t = some r → wx_ G X N ad ce μ k n tgt lv st) (k2 : f = some r → wx_ G X N ad ce μ k n p1 lv st) : wx_ G X N ad ce μ k n pc lv (.int (iI b) :: .int (iI a) :: st) := by
  obtain ⟨p, l, e, R, s, m, args, below, meth, c, Q, A, nL⟩ := X
  intro H locs ls hP hD hS hl
  subst hp
  rcases eq_e h with ⟨hc, hh⟩ | ⟨hc, hc2, hh⟩
  · exact lv_icmp_eq C.1 C.2.1 d ht (fun _ => k1 hh H locs ls hP hD hS hl) (fun q => absurd (congrArg iI hc) q)
  · exact lv_icmp_eq C.1 C.2.1 d ht (fun q => absurd q hc) (fun _ => k2 hh H locs ls hP hD hS hl)
theorem xx_if_eq (C : cx_ G X cc own rm ret nl) (p1 : Nat) (hp : pc + 3 = p1) {a : Int} {off : Int} {tgt : Nat} {t f : Option α} (d : decode cc pc = .ok (.ifCond .eq off, 3)) (ht : (pc : Int) + off = (tgt : Int)) (h : eq_ a 0 t f = some r) (k1 : t = some r → wx_ G X N ad ce μ k n tgt lv st) (k2 : f = some r → wx_ G X N ad ce μ k n p1 lv st) : wx_ G X N ad ce μ k n pc lv (.int (iI a) :: st) := by
  obtain ⟨p, l, e, R, s, m, args, below, meth, c, Q, A, nL⟩ := X
  intro H locs ls hP hD hS hl
  subst hp
  rcases eq_e h with ⟨hc, hh⟩ | ⟨hc, hc2, hh⟩
  · exact lv_if_eq C.1 C.2.1 d ht (fun _ => k1 hh H locs ls hP hD hS hl) (fun q => absurd (congrArg iI hc) q)
  · exact lv_if_eq C.1 C.2.1 d ht (fun q => absurd q hc) (fun _ => k2 hh H locs ls hP hD hS hl)
theorem xx_icmp_ne (C : cx_ G X cc own rm ret nl) (p1 : Nat) (hp : pc + 3 = p1) {a b : Int} {off : Int} {tgt : Nat} {t f : Option α} (d : decode cc pc = .ok (.if_icmp .ne off, 3)) (ht : (pc : Int) + off = (tgt : Int)) (h : eq_ a b f t = some r) (k1 : t = some r → wx_ G X N ad ce μ k n tgt lv st) (k2 : f = some r → wx_ G X N ad ce μ k n p1 lv st) : wx_ G X N ad ce μ k n pc lv (.int (iI b) :: .int (iI a) :: st) := by
  obtain ⟨p, l, e, R, s, m, args, below, meth, c, Q, A, nL⟩ := X
  intro H locs ls hP hD hS hl
  subst hp
  rcases eq_e h with ⟨hc, hh⟩ | ⟨hc, hc2, hh⟩
  · exact lv_icmp_ne C.1 C.2.1 d ht (fun q => absurd (congrArg iI hc) q) (fun _ => k2 hh H locs ls hP hD hS hl)
  · exact lv_icmp_ne C.1 C.2.1 d ht (fun _ => k1 hh H locs ls hP hD hS hl) (fun q => (hc q).elim)
theorem xx_if_ne (C : cx_ G X cc own rm ret nl) (p1 : Nat) (hp : pc + 3 = p1) {a : Int} {off : Int} {tgt : Nat} {t f : Option α} (d : decode cc pc = .ok (.ifCond .ne off, 3)) (ht : (pc : Int) + off = (tgt : Int)) (h : eq_ a 0 f t = some r) (k1 : t = some r → wx_ G X N ad ce μ k n tgt lv st) (k2 : f = some r → wx_ G X N ad ce μ k n p1 lv st) : wx_ G X N ad ce μ k n pc lv (.int (iI a) :: st) := by
  obtain ⟨p, l, e, R, s, m, args, below, meth, c, Q, A, nL⟩ := X
  intro H locs ls hP hD hS hl
  subst hp
  rcases eq_e h with ⟨hc, hh⟩ | ⟨hc, hc2, hh⟩
  · exact lv_if_ne C.1 C.2.1 d ht (fun q => absurd (congrArg iI hc) q) (fun _ => k2 hh H locs ls hP hD hS hl)
  · exact lv_if_ne C.1 C.2.1 d ht (fun _ => k1 hh H locs ls hP hD hS hl) (fun q => (hc q).elim)
theorem xx_idiv (C : cx_ G X cc own rm ret nl) (p1 : Nat) (hp : pc + 1 = p1) {a b : Int} {f : Int → Option α} (d : decode cc pc = .ok (.idiv, 1)) (h : dv_ a b f = some r) (kk : ∀ v, f v = some r → wx_ G X N ad ce μ k n p1 lv (.int (iI v) :: st)) : wx_ G X N ad ce μ k n pc lv (.int (iI b) :: .int (iI a) :: st) := by
  obtain ⟨p, l, e, R, s, m, args, below, meth, c, Q, A, nL⟩ := X
  intro H locs ls hP hD hS hl
  subst hp
  obtain ⟨⟨ha, hb, h0⟩, hh⟩ := ck_e h
  have e0 : ¬ iI b = 0 := fun q => h0 ((iI_eq hb (by decide)).mp (q.trans rfl))
  refine lv_idiv C.1 C.2.1 d e0 ?_
  have hk := kk _ hh H locs ls hP hD hS hl
  rw [iI_div ha hb] at hk
  exact hk
theorem xx_irem (C : cx_ G X cc own rm ret nl) (p1 : Nat) (hp : pc + 1 = p1) {a b : Int} {f : Int → Option α} (d : decode cc pc = .ok (.irem, 1)) (h : rm_ a b f = some r) (kk : ∀ v, f v = some r → wx_ G X N ad ce μ k n p1 lv (.int (iI v) :: st)) : wx_ G X N ad ce μ k n pc lv (.int (iI b) :: .int (iI a) :: st) := by
  obtain ⟨p, l, e, R, s, m, args, below, meth, c, Q, A, nL⟩ := X
  intro H locs ls hP hD hS hl
  subst hp
  obtain ⟨⟨ha, hb, h0⟩, hh⟩ := ck_e h
  have e0 : ¬ iI b = 0 := fun q => h0 ((iI_eq hb (by decide)).mp (q.trans rfl))
  refine lv_irem C.1 C.2.1 d e0 ?_
  have hk := kk _ hh H locs ls hP hD hS hl
  rw [iI_rem ha hb] at hk
  exact hk
theorem xx_getr (C : cx_ G X cc own rm ret nl) (p1 : Nat) (hp : pc + 3 = p1) {fs : List Value} {ci : Nat} {Cn : String} {T : u_T} {NF index fi : Nat} {q : Nat} {v : Value} (hq : q < N) (he : ce q (μ q) = .inr (ci, fs)) (hc : vwCl[ci]? = some (Cn, T, NF)) (hin : ∀ w ∈ u_ws Cn T NF, w ∈ gT_) (hk : fi < NF) (hv : fs[fi]? = some v) (hlink : Cond.fieldLink own index (T fi).1 (T fi).2.1 (T fi).2.2.1 ∈ gT_) (d : decode cc pc = .ok (.getfield index, 3)) (h : wx_ G X N ad ce μ k n p1 lv (v :: st)) : wx_ G X N ad ce μ k n pc lv (.ref (ad q) :: st) := by
  obtain ⟨p, l, e, R, s, m, args, below, meth, c, Q, A, nL⟩ := X
  intro H locs ls hP hD hS hl
  subst hp
  exact va_get (C := Cn) (T := T) (N := NF) (ref := (T fi).1) C.1 C.2.1 C.2.2.1 hin C.2.2.2.1 C.2.2.2.2.1 hP q ((wl_get hq).trans (by rw [he])) hc fi hk (C.2.2.1 _ hlink) (fun x h9 => h9) hv d (h H locs ls hP hD hS hl)
theorem xx_geti (C : cx_ G X cc own rm ret nl) (p1 : Nat) (hp : pc + 3 = p1) {fs : List Value} {ci : Nat} {Cn : String} {T : u_T} {NF index fi : Nat} {q : Nat} {j : Int} {f : Int → Option α} (hq : q < N) (he : ce q (μ q) = .inr (ci, fs)) (hc : vwCl[ci]? = some (Cn, T, NF)) (hin : ∀ w ∈ u_ws Cn T NF, w ∈ gT_) (hk : fi < NF) (hv : fs[fi]? = some (.int (iI (μ q j)))) (hlink : Cond.fieldLink own index (T fi).1 (T fi).2.1 (T fi).2.2.1 ∈ gT_) (d : decode cc pc = .ok (.getfield index, 3)) (h : nm_ (μ q j) f = some r) (kk : ∀ v, f v = some r → wx_ G X N ad ce μ k n p1 lv (.int (iI v) :: st)) : wx_ G X N ad ce μ k n pc lv (.ref (ad q) :: st) := by
  obtain ⟨p, l, e, R, s, m, args, below, meth, c, Q, A, nL⟩ := X
  intro H locs ls hP hD hS hl
  subst hp
  exact va_get (C := Cn) (T := T) (N := NF) (ref := (T fi).1) C.1 C.2.1 C.2.2.1 hin C.2.2.2.1 C.2.2.2.2.1 hP q ((wl_get hq).trans (by rw [he])) hc fi hk (C.2.2.1 _ hlink) (fun x h9 => h9) hv d (kk _ h H locs ls hP hD hS hl)
theorem xx_puti (C : cx_ G X cc own rm ret nl) (p1 : Nat) (hp : pc + 3 = p1) {fs : List Value} {ci : Nat} {Cn : String} {T : u_T} {NF index fi : Nat} {q : Nat} {j v : Int} {f : mu_T → Option α} (hq : q < N) (he : ce q (μ q) = .inr (ci, fs)) (he2 : ce q (ur_ (μ q) j v) = .inr (ci, fs.set fi (.int (iI v)))) (hc : vwCl[ci]? = some (Cn, T, NF)) (hin : ∀ w ∈ u_ws Cn T NF, w ∈ gT_) (tyf : Nat → FieldType) (hty : ∀ k, k < NF → parseFieldDescriptor (T k).2.2.1 = some (tyf k)) (hnm : ∀ a, a < NF → ∀ b, b < NF → a ≠ b → (T a).2.1 ≠ (T b).2.1) (hk : fi < NF) (hl0 : fi < fs.length) (hT : (T fi).2.2.2 = false ∧ parseFieldDescriptor (T fi).2.2.1 = some .int) (hlink : Cond.fieldLink own index (T fi).1 (T fi).2.1 (T fi).2.2.1 ∈ gT_) (d : decode cc pc = .ok (.putfield index, 3)) (h : wf_ μ q j v f = some r) (kk : ∀ μ1, f μ1 = some r → wx_ G X N ad ce μ1 k n p1 lv st) : wx_ G X N ad ce μ k n pc lv (.int (iI v) :: .ref (ad q) :: st) := by
  obtain ⟨p, l, e, R, s, m, args, below, meth, c, Q, A, nL⟩ := X
  intro H locs ls hP hD hS hl
  subst hp
  refine va_put (C := Cn) (T := T) (N := NF) (ref := (T fi).1) (ty := .int) C.1 C.2.1 C.2.2.1 hin tyf hty hnm C.2.2.2.1 C.2.2.2.2.1 hP hD hS q ((wl_get hq).trans (by rw [he])) hc fi hk (C.2.2.1 _ hlink) (fun x h9 => h9) hT.1 hT.2 rfl (by first | rfl | (rcases hz with rfl | rfl <;> rfl)) hl0 d (fun H1 locs1 hP1 hD1 hS1 => ?_)
  rw [← he2, wl_set] at hP1 hD1
  exact kk _ h H1 locs1 ls hP1 hD1 hS1 hl
theorem xx_putz (C : cx_ G X cc own rm ret nl) (p1 : Nat) (hp : pc + 3 = p1) {fs : List Value} {ci : Nat} {Cn : String} {T : u_T} {NF index fi : Nat} {q : Nat} {j v : Int} {f : mu_T → Option α} (hq : q < N) (he : ce q (μ q) = .inr (ci, fs)) (he2 : ce q (ur_ (μ q) j v) = .inr (ci, fs.set fi (.int (iI v)))) (hc : vwCl[ci]? = some (Cn, T, NF)) (hin : ∀ w ∈ u_ws Cn T NF, w ∈ gT_) (tyf : Nat → FieldType) (hty : ∀ k, k < NF → parseFieldDescriptor (T k).2.2.1 = some (tyf k)) (hnm : ∀ a, a < NF → ∀ b, b < NF → a ≠ b → (T a).2.1 ≠ (T b).2.1) (hk : fi < NF) (hl0 : fi < fs.length) (hT : (T fi).2.2.2 = false ∧ parseFieldDescriptor (T fi).2.2.1 = some .boolean) (hlink : Cond.fieldLink own index (T fi).1 (T fi).2.1 (T fi).2.2.1 ∈ gT_) (d : decode cc pc = .ok (.putfield index, 3)) (h : wz_ μ q j v f = some r) (kk : ∀ μ1, f μ1 = some r → wx_ G X N ad ce μ1 k n p1 lv st) : wx_ G X N ad ce μ k n pc lv (.int (iI v) :: .ref (ad q) :: st) := by
  obtain ⟨p, l, e, R, s, m, args, below, meth, c, Q, A, nL⟩ := X
  intro H locs ls hP hD hS hl
  subst hp
  obtain ⟨hz, h⟩ := ck_e h
  refine va_put (C := Cn) (T := T) (N := NF) (ref := (T fi).1) (ty := .boolean) C.1 C.2.1 C.2.2.1 hin tyf hty hnm C.2.2.2.1 C.2.2.2.2.1 hP hD hS q ((wl_get hq).trans (by rw [he])) hc fi hk (C.2.2.1 _ hlink) (fun x h9 => h9) hT.1 hT.2 (by rcases hz with rfl | rfl <;> rfl) (by first | rfl | (rcases hz with rfl | rfl <;> rfl)) hl0 d (fun H1 locs1 hP1 hD1 hS1 => ?_)
  rw [← he2, wl_set] at hP1 hD1
  exact kk _ h H1 locs1 ls hP1 hD1 hS1 hl
theorem xx_iaload (C : cx_ G X cc own rm ret nl) (p1 : Nat) (hp : pc + 1 = p1) {nA : Nat} {q : Nat} {i : Int} {f : Int → Option α} (hq : q < N) (he : ∀ row, ce q row = .inl (G.1.1 100, nA, .inl (fun j => iI (row (j : Nat))))) (hn : nA < 2147483648) (d : decode cc pc = .ok (.iaload, 1)) (h : rd_ μ q nA i f = some r) (kk : ∀ v, f v = some r → wx_ G X N ad ce μ k n p1 lv (.int (iI v) :: st)) : wx_ G X N ad ce μ k n pc lv (.int (iI i) :: .ref (ad q) :: st) := by
  obtain ⟨p, l, e, R, s, m, args, below, meth, c, Q, A, nL⟩ := X
  intro H locs ls hP hD hS hl
  subst hp
  obtain ⟨⟨h0, h1⟩, h⟩ := ck_e h
  refine va_iald C.1 C.2.1 C.2.2.2.2.1 hP q 0 ((wl_get hq).trans (by rw [he])) rfl (iI_in h0 h1 hn) d ?_
  have e1 : (((iI i).toNatClampNeg : Nat) : Int) = i := by rw [iI_clamp (by omega)]; omega
  show W _ _ _ _ _ _ _ _ _ _ _ _ _ _ _ (F0 m (pc + 1) ls (.int (iI (μ q (((iI i).toNatClampNeg : Nat) : Int))) :: st))
  rw [e1]
  exact kk _ h H locs ls hP hD hS hl
theorem xx_iastore (C : cx_ G X cc own rm ret nl) (p1 : Nat) (hp : pc + 1 = p1) {nA : Nat} {q : Nat} {i v : Int} {f : mu_T → Option α} (hq : q < N) (he : ∀ row, ce q row = .inl (G.1.1 100, nA, .inl (fun j => iI (row (j : Nat))))) (hn : nA < 2147483648) (d : decode cc pc = .ok (.iastore, 1)) (h : wr_ μ q nA i v f = some r) (kk : ∀ μ1, f μ1 = some r → wx_ G X N ad ce μ1 k n p1 lv st) : wx_ G X N ad ce μ k n pc lv (.int (iI v) :: .int (iI i) :: .ref (ad q) :: st) := by
  obtain ⟨p, l, e, R, s, m, args, below, meth, c, Q, A, nL⟩ := X
  intro H locs ls hP hD hS hl
  subst hp
  obtain ⟨⟨h0, h1⟩, h⟩ := ck_e h
  refine va_iast C.1 C.2.1 C.2.2.2.2.1 hP hD hS q 0 ((wl_get hq).trans (by rw [he])) rfl (iI_in h0 h1 hn) d (fun H1 locs1 hP1 hD1 hS1 => ?_)
  have e1 : (upd (fun j : Nat => iI (μ q (j : Int))) (iI i).toNatClampNeg (iI v)) = fun j : Nat => iI (ur_ (μ q) i v (j : Int)) := by
    funext j
    rw [iI_clamp (by omega)]
    unfold upd ur_
    by_cases hj : j = i.toNat
    · rw [if_pos hj, if_pos (by omega)]
    · rw [if_neg hj, if_neg (by omega)]
  rw [e1, ← he, wl_set] at hP1 hD1
  exact kk _ h H1 locs1 ls hP1 hD1 hS1 hl
theorem xx_alen (C : cx_ G X cc own rm ret nl) (p1 : Nat) (hp : pc + 1 = p1) {nA : Nat} {q : Nat} (hq : q < N) (he : ∀ row, ce q row = .inl (G.1.1 100, nA, .inl (fun j => iI (row (j : Nat))))) (d : decode cc pc = .ok (.arraylength, 1)) (h : wx_ G X N ad ce μ k n p1 lv (.int (iI nA) :: st)) : wx_ G X N ad ce μ k n pc lv (.ref (ad q) :: st) := by
  obtain ⟨p, l, e, R, s, m, args, below, meth, c, Q, A, nL⟩ := X
  intro H locs ls hP hD hS hl
  subst hp
  exact va_alen C.1 C.2.1 C.2.2.2.2.1 hP q 0 ((wl_get hq).trans (by rw [he])) rfl (iI_nat nA) d (h H locs ls hP hD hS hl)
theorem xx_iret (C : cx_ G X cc own rm ret nl) {e0 a : Int} {μ2 : mu_T} (E : ei_ G X N ad ce a μ2 rm) (hr : ret = some .int) (hk : k ≤ rm.cells ∧ n ≤ rm.slots) (d : decode cc pc = .ok (.ireturn, 1)) (h : some (e0, μ) = some (a, μ2)) : wx_ G X N ad ce μ k n pc lv [.int (iI e0)] := by
  obtain ⟨p, l, e, R, s, m, args, below, meth, c, Q, A, nL⟩ := X
  intro H locs ls hP hD hS hl
  obtain ⟨rfl, rfl⟩ := Prod.mk.inj (Option.some.inj h)
  obtain ⟨hx, hb, -, -, hK, -, -, hlocks, -, -, hrt, -, -⟩ := C
  subst hr
  rw [show Q = _ from E]
  refine W.widen hk.1 hk.2 ?_
  exact W.iret hx hb hrt (fun t ht hW => ⟨⟨_, (), rfl, rfl, by rw [ht]; exact hP, va_K.moved hW.alike hK, hD⟩, hS.F ht⟩) hS.2.2 d hlocks
theorem xx_zret (C : cx_ G X cc own rm ret nl) {e0 a : Int} {μ2 : mu_T} {ty : FieldType} (E : ei_ G X N ad ce a μ2 rm) (hr : ret = some ty) (hz : narrow ty (.int (iI e0)) = .int (iI e0)) (hk : k ≤ rm.cells ∧ n ≤ rm.slots) (d : decode cc pc = .ok (.ireturn, 1)) (h : some (e0, μ) = some (a, μ2)) : wx_ G X N ad ce μ k n pc lv [.int (iI e0)] := by
  obtain ⟨p, l, e, R, s, m, args, below, meth, c, Q, A, nL⟩ := X
  intro H locs ls hP hD hS hl
  obtain ⟨rfl, rfl⟩ := Prod.mk.inj (Option.some.inj h)
  obtain ⟨hx, hb, -, -, hK, -, -, hlocks, -, -, hrt, -, -⟩ := C
  subst hr
  rw [show Q = _ from E]
  refine W.widen hk.1 hk.2 ?_
  exact W.zret hx hb hrt hz (fun t ht hW => ⟨⟨_, (), rfl, rfl, by rw [ht]; exact hP, va_K.moved hW.alike hK, hD⟩, hS.F ht⟩) hS.2.2 d hlocks
theorem xx_zretz (C : cx_ G X cc own rm ret nl) {e0 a : Int} {μ2 : mu_T} (E : ei_ G X N ad ce a μ2 rm) (hr : ret = some .boolean) (hk : k ≤ rm.cells ∧ n ≤ rm.slots) (d : decode cc pc = .ok (.ireturn, 1)) (h : rz_ e0 μ = some (a, μ2)) : wx_ G X N ad ce μ k n pc lv [.int (iI e0)] := by
  obtain ⟨hz, h⟩ := ck_e h
  exact xx_zret C E hr (by rcases hz with rfl | rfl <;> rfl) hk d h
theorem xx_iretp (C : cx_ G X cc own rm ret nl) {e0 a : Int} (E : ei_ G X N ad ce a μ rm) (hr : ret = some .int) (hk : k ≤ rm.cells ∧ n ≤ rm.slots) (d : decode cc pc = .ok (.ireturn, 1)) (h : some e0 = some a) : wx_ G X N ad ce μ k n pc lv [.int (iI e0)] := xx_iret C E hr hk d (by rw [Option.some.inj h])
theorem xx_zretp (C : cx_ G X cc own rm ret nl) {e0 a : Int} (E : ei_ G X N ad ce a μ rm) (hr : ret = some .boolean) (hk : k ≤ rm.cells ∧ n ≤ rm.slots) (d : decode cc pc = .ok (.ireturn, 1)) (h : ry_ e0 = some a) : wx_ G X N ad ce μ k n pc lv [.int (iI e0)] := by
  obtain ⟨hz, h⟩ := ck_e h
  exact xx_zret C E hr (by rcases hz with rfl | rfl <;> rfl) hk d (by rw [Option.some.inj h])
theorem xx_vret (C : cx_ G X cc own rm ret nl) {μ2 : mu_T} (E : ev_ G X N ad ce μ2 rm) (hr : ret = none) (hk : k ≤ rm.cells ∧ n ≤ rm.slots) (d : decode cc pc = .ok (.return_, 1)) (h : some μ = some μ2) : wx_ G X N ad ce μ k n pc lv [] := by
  obtain ⟨p, l, e, R, s, m, args, below, meth, c, Q, A, nL⟩ := X
  intro H locs ls hP hD hS hl
  obtain rfl := Option.some.inj h
  obtain ⟨hx, hb, -, -, hK, -, -, hlocks, -, -, hrt, -, -⟩ := C
  subst hr
  rw [show Q = _ from E]
  refine W.widen hk.1 hk.2 ?_
  exact W.vret hx hb hrt (fun t ht hW => ⟨⟨(), rfl, trivial, by rw [ht]; exact hP, va_K.moved hW.alike hK, hD⟩, hS.F ht⟩) hS.2.2 d hlocks
theorem xx_vretp (C : cx_ G X cc own rm ret nl) {u9 : Unit} (E : ev_ G X N ad ce μ rm) (hr : ret = none) (hk : k ≤ rm.cells ∧ n ≤ rm.slots) (d : decode cc pc = .ok (.return_, 1)) (h : some () = some u9) : wx_ G X N ad ce μ k n pc lv [] := by
  obtain ⟨p, l, e, R, s, m, args, below, meth, c, Q, A, nL⟩ := X
  intro H locs ls hP hD hS hl
  obtain ⟨hx, hb, -, -, hK, -, -, hlocks, -, -, hrt, -, -⟩ := C
  subst hr
  rw [show Q = _ from E]
  refine W.widen hk.1 hk.2 ?_
  exact W.vret hx hb hrt (fun t ht hW => ⟨⟨(), rfl, trivial, by rw [ht]; exact hP, va_K.moved hW.alike hK, hD⟩, hS.F ht⟩) hS.2.2 d hlocks
/-- what the tables say of a callee -/
def ca_ (y : MethodName) (bytes : ByteArray) (maxL : Nat) (ret2 : Option FieldType) (nA : Nat) : Prop := Cond.initialized y.cls ∈ gT_ ∧ Cond.code y bytes maxL ret2 ∈ gT_ ∧ (y.cls ≠ "java/lang/invoke/MethodHandle" ∧ y.cls ≠ "java/lang/invoke/VarHandle" ∧ (parseMethodDescriptor y.desc).map (fun d => d.parameters.length) = some nA)
def cv_ (y : MethodName) : Prop := Cond.instanceMethod y ∈ gT_ ∧ Cond.selects y.cls y y ∈ gT_
theorem gT_in {bytes : ByteArray} {y : MethodName} {maxL : Nat} {ret2 : Option FieldType} (h : Cond.code y bytes maxL ret2 ∈ gT_) : GoodIn gT_ (Cond.code y bytes maxL ret2 :: gT_) := fun w hw => by
  rcases List.mem_cons.mp hw with rfl | hw
  · exact ⟨h, gT_good h⟩
  · exact ⟨hw, gT_good hw⟩
theorem xx_cKip (C : cx_ G X cc own rm ret nl) (p1 : Nat) (hp : pc + 3 = p1) {F : Option Int} {f : Int → Option α} {y : MethodName} {bytes : ByteArray} {maxL nA index : Nat} {ret2 : Option FieldType} {rm2 : Room} {As : List Value} {z : Int} (hcl : "java/lang/String" = y.cls) (hca : ca_ y bytes maxL ret2 nA) (hcv : cv_ y) (m1 : Cond.methodLink own index y ∈ gT_) (hn : As.length = nA) (hR : rm2.frames + 1 ≤ rm.frames ∧ 8 + (maxL + 11) + rm2.locals ≤ rm.locals) (hf : k + rm2.cells ≤ rm.cells ∧ n + rm2.slots ≤ rm.slots) (hW : (st.map fun v => v.category).sum ≤ 8) (d : decode cc pc = .ok (.invokevirtual index, 3)) (hM : ∀ a, F = some a → mi_ y bytes maxL ret2 rm2 G N ad ce (.ref (G.2.1 (200 + (z : Int).toNat)) :: As) μ a μ) (h : gd_ (0 ≤ z ∧ z < 16) (bd_ F f) = some r) (kk : ∀ a, f a = some r → wx_ G X N ad ce μ (k + rm2.cells) (n + rm2.slots) p1 lv (.int (iI a) :: st)) (hst : stk = As.reverse ++ .ref (G.2.1 (200 + (z : Int).toNat)) :: st) : wx_ G X N ad ce μ k n pc lv stk := by
  obtain ⟨p, l, e, R, s, m, args, below, meth, c, Q, A, nL⟩ := X
  intro H locs ls hP hD hS hl
  subst hp
  have hts := C.2.2.1
  have hK := C.2.2.2.2.1
  have hA := C.2.2.2.2.2.1
  have hAb := C.2.2.2.2.2.2.2.2.1
  have hR' : R = rm := C.2.2.2.2.2.2.2.2.2.1
  have hg := C.2.2.2.2.2.2.2.2.2.2.2.1
  subst hR'
  have hsz : G.2.2 ≤ H.size := by
    have h1 := hAb s.heap.size (hA _ (Nat.le_refl _))
    exact Nat.le_trans h1 hS.1
  have hDb : va_D (fun q => G.2.2 ≤ q) (wl_ N ad ce μ) := hD.weaken (fun _ q _ h => hAb q.1 h)
  have hgH : gk_ G s H := gk_kept hg (fun a h1 h2 => hS.2.1 a h1 (fun q => h2 (hAb a q)))
  have hF : ∀ q, va_A (wl_ N ad ce μ) H.size q → A q := fun q h => by
    rcases h with ⟨j, e9, h⟩ | h
    · exact hD.2 j _ h
    · exact hA q (Nat.le_trans hS.1 h)
  have hpre : ∀ U : State, U.heap = H → s.WarmedH U.vm → pr_ G N ad ce μ H.size U := fun U hU hW9 => ⟨by rw [hU], by rw [hU]; exact hP, va_K.moved hW9.alike hK, hDb, hsz, by rw [hU]; exact gk_warm hW9 hgH⟩
  subst hst
  obtain ⟨⟨hz0, hz1⟩, h⟩ := ck_e h
  obtain ⟨a9, e9, h⟩ := bd_e h
  have hM9 := hM a9 e9 l H.size
  have hpreV : ∀ U : State, U.heap = H → s.WarmedH U.vm → va_Pc (.ref (G.2.1 (200 + (z : Int).toNat)) :: As) (pr_ G N ad ce μ H.size) (Value.ref (G.2.1 (200 + (z : Int).toNat)) :: As).toArray U := fun U hU hW9 => ⟨rfl, hpre U hU hW9⟩
  refine va_calli (va_runV (rest := st) ⟨C.1, C.2.1, C.2.2.2.2.2.2.1, C.2.2.2.1, hts⟩ hM9 ⟨callB_of nA hts (gT_in hca.2.1) rfl rfl rfl (hts _ hca.1) (hts _ m1) hca.2.2 hR, hts _ hcv.1, hts _ hcv.2⟩ ⟨(fun a U g mk q => by obtain ⟨q0, q1, qP, qK, qD, q2, q3⟩ := q; exact ⟨q0, q1, qP, va_K.moved (u := U) (U := U.calling g mk a) (Vm.Alike.refl U.vm) qK, qD, q2, gk_same (u := U) (U := U.calling g mk a) rfl q3⟩), (by have h9 := vk_recv ((hg.1 z.toNat (by omega)).narrow (B := A) hAb) (i := 0) (by decide) hS; rw [hcl] at h9; exact h9), hpreV⟩ rfl hn hl.1 rfl (lv_room hW) d hf) hS (fun q _ h => hF q h) hF (fun r9 u t H1 locs1 ht hvm hw hB hz1 hk1 hS1 => ?_)
  obtain ⟨hP1, hK1, hD1⟩ := hB
  rw [ht] at hP1
  rw [hw]
  exact kk a9 h H1 locs1 ls hP1 (hD1.weaken (fun _ q _ h => hF q.1 h)) hS1 hl
theorem xx_cSvp (C : cx_ G X cc own rm ret nl) (p1 : Nat) (hp : pc + 3 = p1) {F : Option Unit} {f : Unit → Option α} {y : MethodName} {bytes : ByteArray} {maxL nA index : Nat} {rm2 : Room} {As : List Value} (hca : ca_ y bytes maxL none nA) (hcv : Cond.static y ∈ gT_) (m1 : Cond.methodLink own index y ∈ gT_) (hn : As.length = nA) (hR : rm2.frames + 1 ≤ rm.frames ∧ 8 + (maxL + 11) + rm2.locals ≤ rm.locals) (hf : k + rm2.cells ≤ rm.cells ∧ n + rm2.slots ≤ rm.slots) (hW : (st.map fun v => v.category).sum ≤ 8) (d : decode cc pc = .ok (.invokestatic index, 3)) (hM : ∀ a, F = some a → mv_ y bytes maxL rm2 G N ad ce As μ μ) (h : bd_ F f = some r) (kk : ∀ a, f a = some r → wx_ G X N ad ce μ (k + rm2.cells) (n + rm2.slots) p1 lv st) (hst : stk = As.reverse ++ st) : wx_ G X N ad ce μ k n pc lv stk := by
  obtain ⟨p, l, e, R, s, m, args, below, meth, c, Q, A, nL⟩ := X
  intro H locs ls hP hD hS hl
  subst hp
  have hts := C.2.2.1
  have hK := C.2.2.2.2.1
  have hA := C.2.2.2.2.2.1
  have hAb := C.2.2.2.2.2.2.2.2.1
  have hR' : R = rm := C.2.2.2.2.2.2.2.2.2.1
  have hg := C.2.2.2.2.2.2.2.2.2.2.2.1
  subst hR'
  have hsz : G.2.2 ≤ H.size := by
    have h1 := hAb s.heap.size (hA _ (Nat.le_refl _))
    exact Nat.le_trans h1 hS.1
  have hDb : va_D (fun q => G.2.2 ≤ q) (wl_ N ad ce μ) := hD.weaken (fun _ q _ h => hAb q.1 h)
  have hgH : gk_ G s H := gk_kept hg (fun a h1 h2 => hS.2.1 a h1 (fun q => h2 (hAb a q)))
  have hF : ∀ q, va_A (wl_ N ad ce μ) H.size q → A q := fun q h => by
    rcases h with ⟨j, e9, h⟩ | h
    · exact hD.2 j _ h
    · exact hA q (Nat.le_trans hS.1 h)
  have hpre : ∀ U : State, U.heap = H → s.WarmedH U.vm → pr_ G N ad ce μ H.size U := fun U hU hW9 => ⟨by rw [hU], by rw [hU]; exact hP, va_K.moved hW9.alike hK, hDb, hsz, by rw [hU]; exact gk_warm hW9 hgH⟩
  subst hst
  obtain ⟨a9, e9, h⟩ := bd_e h
  have hM9 := hM a9 e9 l H.size
  have hpreV : ∀ U : State, U.heap = H → s.WarmedH U.vm → va_Pc As (pr_ G N ad ce μ H.size) (As).toArray U := fun U hU hW9 => ⟨rfl, hpre U hU hW9⟩
  refine va_callv (va_runS (rest := st) ⟨C.1, C.2.1, C.2.2.2.2.2.2.1, C.2.2.2.1, hts⟩ hM9 ⟨callB_of nA hts (gT_in hca.2.1) rfl rfl rfl (hts _ hca.1) (hts _ m1) hca.2.2 hR, hts _ hcv⟩ ⟨(fun a U g mk q => by obtain ⟨q0, q1, qP, qK, qD, q2, q3⟩ := q; exact ⟨q0, q1, qP, va_K.moved (u := U) (U := U.calling g mk a) (Vm.Alike.refl U.vm) qK, qD, q2, gk_same (u := U) (U := U.calling g mk a) rfl q3⟩), hpreV⟩ rfl hn hl.1 rfl (lv_room hW) d hf) hS (fun q _ h => hF q h) hF (fun u t H1 locs1 ht hvm hw hB hz1 hk1 hS1 => ?_)
  obtain ⟨hP1, hK1, hD1⟩ := hB
  rw [ht] at hP1
  exact kk a9 h H1 locs1 ls hP1 (hD1.weaken (fun _ q _ h => hF q.1 h)) hS1 hl
theorem xx_cVi (C : cx_ G X cc own rm ret nl) (p1 : Nat) (hp : pc + 3 = p1) {F : Option (Int × mu_T)} {f : Int → mu_T → Option α} {y : MethodName} {bytes : ByteArray} {maxL nA index : Nat} {ret2 : Option FieldType} {rm2 : Room} {As : List Value} {ci o : Nat} {fs : List Value} {qc : vw_C} (ho : o < N) (he : ce o (μ o) = .inr (ci, fs)) (hc : vwCl[ci]? = some qc) (hcl : qc.1 = y.cls) (hca : ca_ y bytes maxL ret2 nA) (hcv : cv_ y) (m1 : Cond.methodLink own index y ∈ gT_) (hn : As.length = nA) (hR : rm2.frames + 1 ≤ rm.frames ∧ 8 + (maxL + 11) + rm2.locals ≤ rm.locals) (hf : k + rm2.cells ≤ rm.cells ∧ n + rm2.slots ≤ rm.slots) (hW : (st.map fun v => v.category).sum ≤ 8) (d : decode cc pc = .ok (.invokevirtual index, 3)) (hM : ∀ a μ1, F = some (a, μ1) → mi_ y bytes maxL ret2 rm2 G N ad ce (.ref (ad o) :: As) μ a μ1) (h : bp_ F f = some r) (kk : ∀ a μ1, f a μ1 = some r → wx_ G X N ad ce μ1 (k + rm2.cells) (n + rm2.slots) p1 lv (.int (iI a) :: st)) (hst : stk = As.reverse ++ .ref (ad o) :: st) : wx_ G X N ad ce μ k n pc lv stk := by
  obtain ⟨p, l, e, R, s, m, args, below, meth, c, Q, A, nL⟩ := X
  intro H locs ls hP hD hS hl
  subst hp
  have hts := C.2.2.1
  have hK := C.2.2.2.2.1
  have hA := C.2.2.2.2.2.1
  have hAb := C.2.2.2.2.2.2.2.2.1
  have hR' : R = rm := C.2.2.2.2.2.2.2.2.2.1
  have hg := C.2.2.2.2.2.2.2.2.2.2.2.1
  subst hR'
  have hsz : G.2.2 ≤ H.size := by
    have h1 := hAb s.heap.size (hA _ (Nat.le_refl _))
    exact Nat.le_trans h1 hS.1
  have hDb : va_D (fun q => G.2.2 ≤ q) (wl_ N ad ce μ) := hD.weaken (fun _ q _ h => hAb q.1 h)
  have hgH : gk_ G s H := gk_kept hg (fun a h1 h2 => hS.2.1 a h1 (fun q => h2 (hAb a q)))
  have hF : ∀ q, va_A (wl_ N ad ce μ) H.size q → A q := fun q h => by
    rcases h with ⟨j, e9, h⟩ | h
    · exact hD.2 j _ h
    · exact hA q (Nat.le_trans hS.1 h)
  have hpre : ∀ U : State, U.heap = H → s.WarmedH U.vm → pr_ G N ad ce μ H.size U := fun U hU hW9 => ⟨by rw [hU], by rw [hU]; exact hP, va_K.moved hW9.alike hK, hDb, hsz, by rw [hU]; exact gk_warm hW9 hgH⟩
  subst hst
  obtain ⟨a9, μ9, e9, h⟩ := bp_e h
  have hM9 := hM a9 μ9 e9 l H.size
  have hpreV : ∀ U : State, U.heap = H → s.WarmedH U.vm → va_Pc (.ref (ad o) :: As) (pr_ G N ad ce μ H.size) (Value.ref (ad o) :: As).toArray U := fun U hU hW9 => ⟨rfl, hpre U hU hW9⟩
  refine va_calli (va_runV (rest := st) ⟨C.1, C.2.1, C.2.2.2.2.2.2.1, C.2.2.2.1, hts⟩ hM9 ⟨callB_of nA hts (gT_in hca.2.1) rfl rfl rfl (hts _ hca.1) (hts _ m1) hca.2.2 hR, hts _ hcv.1, hts _ hcv.2⟩ ⟨(fun a U g mk q => by obtain ⟨q0, q1, qP, qK, qD, q2, q3⟩ := q; exact ⟨q0, q1, qP, va_K.moved (u := U) (U := U.calling g mk a) (Vm.Alike.refl U.vm) qK, qD, q2, gk_same (u := U) (U := U.calling g mk a) rfl q3⟩), (by have h9 := va_recv hK hP hc ((wl_get ho).trans (by rw [he])); rw [hcl] at h9; exact h9), hpreV⟩ rfl hn hl.1 rfl (lv_room hW) d hf) hS (fun q _ h => hF q h) hF (fun r9 u t H1 locs1 ht hvm hw hB hz1 hk1 hS1 => ?_)
  obtain ⟨hP1, hK1, hD1⟩ := hB
  rw [ht] at hP1
  rw [hw]
  exact kk a9 μ9 h H1 locs1 ls hP1 (hD1.weaken (fun _ q _ h => hF q.1 h)) hS1 hl
theorem xx_cVip (C : cx_ G X cc own rm ret nl) (p1 : Nat) (hp : pc + 3 = p1) {F : Option Int} {f : Int → Option α} {y : MethodName} {bytes : ByteArray} {maxL nA index : Nat} {ret2 : Option FieldType} {rm2 : Room} {As : List Value} {ci o : Nat} {fs : List Value} {qc : vw_C} (ho : o < N) (he : ce o (μ o) = .inr (ci, fs)) (hc : vwCl[ci]? = some qc) (hcl : qc.1 = y.cls) (hca : ca_ y bytes maxL ret2 nA) (hcv : cv_ y) (m1 : Cond.methodLink own index y ∈ gT_) (hn : As.length = nA) (hR : rm2.frames + 1 ≤ rm.frames ∧ 8 + (maxL + 11) + rm2.locals ≤ rm.locals) (hf : k + rm2.cells ≤ rm.cells ∧ n + rm2.slots ≤ rm.slots) (hW : (st.map fun v => v.category).sum ≤ 8) (d : decode cc pc = .ok (.invokevirtual index, 3)) (hM : ∀ a, F = some a → mi_ y bytes maxL ret2 rm2 G N ad ce (.ref (ad o) :: As) μ a μ) (h : bd_ F f = some r) (kk : ∀ a, f a = some r → wx_ G X N ad ce μ (k + rm2.cells) (n + rm2.slots) p1 lv (.int (iI a) :: st)) (hst : stk = As.reverse ++ .ref (ad o) :: st) : wx_ G X N ad ce μ k n pc lv stk := by
  obtain ⟨p, l, e, R, s, m, args, below, meth, c, Q, A, nL⟩ := X
  intro H locs ls hP hD hS hl
  subst hp
  have hts := C.2.2.1
  have hK := C.2.2.2.2.1
  have hA := C.2.2.2.2.2.1
  have hAb := C.2.2.2.2.2.2.2.2.1
  have hR' : R = rm := C.2.2.2.2.2.2.2.2.2.1
  have hg := C.2.2.2.2.2.2.2.2.2.2.2.1
  subst hR'
  have hsz : G.2.2 ≤ H.size := by
    have h1 := hAb s.heap.size (hA _ (Nat.le_refl _))
    exact Nat.le_trans h1 hS.1
  have hDb : va_D (fun q => G.2.2 ≤ q) (wl_ N ad ce μ) := hD.weaken (fun _ q _ h => hAb q.1 h)
  have hgH : gk_ G s H := gk_kept hg (fun a h1 h2 => hS.2.1 a h1 (fun q => h2 (hAb a q)))
  have hF : ∀ q, va_A (wl_ N ad ce μ) H.size q → A q := fun q h => by
    rcases h with ⟨j, e9, h⟩ | h
    · exact hD.2 j _ h
    · exact hA q (Nat.le_trans hS.1 h)
  have hpre : ∀ U : State, U.heap = H → s.WarmedH U.vm → pr_ G N ad ce μ H.size U := fun U hU hW9 => ⟨by rw [hU], by rw [hU]; exact hP, va_K.moved hW9.alike hK, hDb, hsz, by rw [hU]; exact gk_warm hW9 hgH⟩
  subst hst
  obtain ⟨a9, e9, h⟩ := bd_e h
  have hM9 := hM a9 e9 l H.size
  have hpreV : ∀ U : State, U.heap = H → s.WarmedH U.vm → va_Pc (.ref (ad o) :: As) (pr_ G N ad ce μ H.size) (Value.ref (ad o) :: As).toArray U := fun U hU hW9 => ⟨rfl, hpre U hU hW9⟩
  refine va_calli (va_runV (rest := st) ⟨C.1, C.2.1, C.2.2.2.2.2.2.1, C.2.2.2.1, hts⟩ hM9 ⟨callB_of nA hts (gT_in hca.2.1) rfl rfl rfl (hts _ hca.1) (hts _ m1) hca.2.2 hR, hts _ hcv.1, hts _ hcv.2⟩ ⟨(fun a U g mk q => by obtain ⟨q0, q1, qP, qK, qD, q2, q3⟩ := q; exact ⟨q0, q1, qP, va_K.moved (u := U) (U := U.calling g mk a) (Vm.Alike.refl U.vm) qK, qD, q2, gk_same (u := U) (U := U.calling g mk a) rfl q3⟩), (by have h9 := va_recv hK hP hc ((wl_get ho).trans (by rw [he])); rw [hcl] at h9; exact h9), hpreV⟩ rfl hn hl.1 rfl (lv_room hW) d hf) hS (fun q _ h => hF q h) hF (fun r9 u t H1 locs1 ht hvm hw hB hz1 hk1 hS1 => ?_)
  obtain ⟨hP1, hK1, hD1⟩ := hB
  rw [ht] at hP1
  rw [hw]
  exact kk a9 h H1 locs1 ls hP1 (hD1.weaken (fun _ q _ h => hF q.1 h)) hS1 hl
theorem xx_cVv (C : cx_ G X cc own rm ret nl) (p1 : Nat) (hp : pc + 3 = p1) {F : Option mu_T} {f : mu_T → Option α} {y : MethodName} {bytes : ByteArray} {maxL nA index : Nat} {rm2 : Room} {As : List Value} {ci o : Nat} {fs : List Value} {qc : vw_C} (ho : o < N) (he : ce o (μ o) = .inr (ci, fs)) (hc : vwCl[ci]? = some qc) (hcl : qc.1 = y.cls) (hca : ca_ y bytes maxL none nA) (hcv : cv_ y) (m1 : Cond.methodLink own index y ∈ gT_) (hn : As.length = nA) (hR : rm2.frames + 1 ≤ rm.frames ∧ 8 + (maxL + 11) + rm2.locals ≤ rm.locals) (hf : k + rm2.cells ≤ rm.cells ∧ n + rm2.slots ≤ rm.slots) (hW : (st.map fun v => v.category).sum ≤ 8) (d : decode cc pc = .ok (.invokevirtual index, 3)) (hM : ∀ μ1, F = some μ1 → mv_ y bytes maxL rm2 G N ad ce (.ref (ad o) :: As) μ μ1) (h : bd_ F f = some r) (kk : ∀ μ1, f μ1 = some r → wx_ G X N ad ce μ1 (k + rm2.cells) (n + rm2.slots) p1 lv st) (hst : stk = As.reverse ++ .ref (ad o) :: st) : wx_ G X N ad ce μ k n pc lv stk := by
  obtain ⟨p, l, e, R, s, m, args, below, meth, c, Q, A, nL⟩ := X
  intro H locs ls hP hD hS hl
  subst hp
  have hts := C.2.2.1
  have hK := C.2.2.2.2.1
  have hA := C.2.2.2.2.2.1
  have hAb := C.2.2.2.2.2.2.2.2.1
  have hR' : R = rm := C.2.2.2.2.2.2.2.2.2.1
  have hg := C.2.2.2.2.2.2.2.2.2.2.2.1
  subst hR'
  have hsz : G.2.2 ≤ H.size := by
    have h1 := hAb s.heap.size (hA _ (Nat.le_refl _))
    exact Nat.le_trans h1 hS.1
  have hDb : va_D (fun q => G.2.2 ≤ q) (wl_ N ad ce μ) := hD.weaken (fun _ q _ h => hAb q.1 h)
  have hgH : gk_ G s H := gk_kept hg (fun a h1 h2 => hS.2.1 a h1 (fun q => h2 (hAb a q)))
  have hF : ∀ q, va_A (wl_ N ad ce μ) H.size q → A q := fun q h => by
    rcases h with ⟨j, e9, h⟩ | h
    · exact hD.2 j _ h
    · exact hA q (Nat.le_trans hS.1 h)
  have hpre : ∀ U : State, U.heap = H → s.WarmedH U.vm → pr_ G N ad ce μ H.size U := fun U hU hW9 => ⟨by rw [hU], by rw [hU]; exact hP, va_K.moved hW9.alike hK, hDb, hsz, by rw [hU]; exact gk_warm hW9 hgH⟩
  subst hst
  obtain ⟨a9, e9, h⟩ := bd_e h
  have hM9 := hM a9 e9 l H.size
  have hpreV : ∀ U : State, U.heap = H → s.WarmedH U.vm → va_Pc (.ref (ad o) :: As) (pr_ G N ad ce μ H.size) (Value.ref (ad o) :: As).toArray U := fun U hU hW9 => ⟨rfl, hpre U hU hW9⟩
  refine va_callv (va_runV (rest := st) ⟨C.1, C.2.1, C.2.2.2.2.2.2.1, C.2.2.2.1, hts⟩ hM9 ⟨callB_of nA hts (gT_in hca.2.1) rfl rfl rfl (hts _ hca.1) (hts _ m1) hca.2.2 hR, hts _ hcv.1, hts _ hcv.2⟩ ⟨(fun a U g mk q => by obtain ⟨q0, q1, qP, qK, qD, q2, q3⟩ := q; exact ⟨q0, q1, qP, va_K.moved (u := U) (U := U.calling g mk a) (Vm.Alike.refl U.vm) qK, qD, q2, gk_same (u := U) (U := U.calling g mk a) rfl q3⟩), (by have h9 := va_recv hK hP hc ((wl_get ho).trans (by rw [he])); rw [hcl] at h9; exact h9), hpreV⟩ rfl hn hl.1 rfl (lv_room hW) d hf) hS (fun q _ h => hF q h) hF (fun u t H1 locs1 ht hvm hw hB hz1 hk1 hS1 => ?_)
  obtain ⟨hP1, hK1, hD1⟩ := hB
  rw [ht] at hP1
  exact kk a9 h H1 locs1 ls hP1 (hD1.weaken (fun _ q _ h => hF q.1 h)) hS1 hl
theorem xx_cSi (C : cx_ G X cc own rm ret nl) (p1 : Nat) (hp : pc + 3 = p1) {F : Option (Int × mu_T)} {f : Int → mu_T → Option α} {y : MethodName} {bytes : ByteArray} {maxL nA index : Nat} {ret2 : Option FieldType} {rm2 : Room} {As : List Value} (hca : ca_ y bytes maxL ret2 nA) (hcv : Cond.static y ∈ gT_) (m1 : Cond.methodLink own index y ∈ gT_) (hn : As.length = nA) (hR : rm2.frames + 1 ≤ rm.frames ∧ 8 + (maxL + 11) + rm2.locals ≤ rm.locals) (hf : k + rm2.cells ≤ rm.cells ∧ n + rm2.slots ≤ rm.slots) (hW : (st.map fun v => v.category).sum ≤ 8) (d : decode cc pc = .ok (.invokestatic index, 3)) (hM : ∀ a μ1, F = some (a, μ1) → mi_ y bytes maxL ret2 rm2 G N ad ce As μ a μ1) (h : bp_ F f = some r) (kk : ∀ a μ1, f a μ1 = some r → wx_ G X N ad ce μ1 (k + rm2.cells) (n + rm2.slots) p1 lv (.int (iI a) :: st)) (hst : stk = As.reverse ++ st) : wx_ G X N ad ce μ k n pc lv stk := by
  obtain ⟨p, l, e, R, s, m, args, below, meth, c, Q, A, nL⟩ := X
  intro H locs ls hP hD hS hl
  subst hp
  have hts := C.2.2.1
  have hK := C.2.2.2.2.1
  have hA := C.2.2.2.2.2.1
  have hAb := C.2.2.2.2.2.2.2.2.1
  have hR' : R = rm := C.2.2.2.2.2.2.2.2.2.1
  have hg := C.2.2.2.2.2.2.2.2.2.2.2.1
  subst hR'
  have hsz : G.2.2 ≤ H.size := by
    have h1 := hAb s.heap.size (hA _ (Nat.le_refl _))
    exact Nat.le_trans h1 hS.1
  have hDb : va_D (fun q => G.2.2 ≤ q) (wl_ N ad ce μ) := hD.weaken (fun _ q _ h => hAb q.1 h)
  have hgH : gk_ G s H := gk_kept hg (fun a h1 h2 => hS.2.1 a h1 (fun q => h2 (hAb a q)))
  have hF : ∀ q, va_A (wl_ N ad ce μ) H.size q → A q := fun q h => by
    rcases h with ⟨j, e9, h⟩ | h
    · exact hD.2 j _ h
    · exact hA q (Nat.le_trans hS.1 h)
  have hpre : ∀ U : State, U.heap = H → s.WarmedH U.vm → pr_ G N ad ce μ H.size U := fun U hU hW9 => ⟨by rw [hU], by rw [hU]; exact hP, va_K.moved hW9.alike hK, hDb, hsz, by rw [hU]; exact gk_warm hW9 hgH⟩
  subst hst
  obtain ⟨a9, μ9, e9, h⟩ := bp_e h
  have hM9 := hM a9 μ9 e9 l H.size
  have hpreV : ∀ U : State, U.heap = H → s.WarmedH U.vm → va_Pc As (pr_ G N ad ce μ H.size) (As).toArray U := fun U hU hW9 => ⟨rfl, hpre U hU hW9⟩
  refine va_calli (va_runS (rest := st) ⟨C.1, C.2.1, C.2.2.2.2.2.2.1, C.2.2.2.1, hts⟩ hM9 ⟨callB_of nA hts (gT_in hca.2.1) rfl rfl rfl (hts _ hca.1) (hts _ m1) hca.2.2 hR, hts _ hcv⟩ ⟨(fun a U g mk q => by obtain ⟨q0, q1, qP, qK, qD, q2, q3⟩ := q; exact ⟨q0, q1, qP, va_K.moved (u := U) (U := U.calling g mk a) (Vm.Alike.refl U.vm) qK, qD, q2, gk_same (u := U) (U := U.calling g mk a) rfl q3⟩), hpreV⟩ rfl hn hl.1 rfl (lv_room hW) d hf) hS (fun q _ h => hF q h) hF (fun r9 u t H1 locs1 ht hvm hw hB hz1 hk1 hS1 => ?_)
  obtain ⟨hP1, hK1, hD1⟩ := hB
  rw [ht] at hP1
  rw [hw]
  exact kk a9 μ9 h H1 locs1 ls hP1 (hD1.weaken (fun _ q _ h => hF q.1 h)) hS1 hl
theorem xx_cSip (C : cx_ G X cc own rm ret nl) (p1 : Nat) (hp : pc + 3 = p1) {F : Option Int} {f : Int → Option α} {y : MethodName} {bytes : ByteArray} {maxL nA index : Nat} {ret2 : Option FieldType} {rm2 : Room} {As : List Value} (hca : ca_ y bytes maxL ret2 nA) (hcv : Cond.static y ∈ gT_) (m1 : Cond.methodLink own index y ∈ gT_) (hn : As.length = nA) (hR : rm2.frames + 1 ≤ rm.frames ∧ 8 + (maxL + 11) + rm2.locals ≤ rm.locals) (hf : k + rm2.cells ≤ rm.cells ∧ n + rm2.slots ≤ rm.slots) (hW : (st.map fun v => v.category).sum ≤ 8) (d : decode cc pc = .ok (.invokestatic index, 3)) (hM : ∀ a, F = some a → mi_ y bytes maxL ret2 rm2 G N ad ce As μ a μ) (h : bd_ F f = some r) (kk : ∀ a, f a = some r → wx_ G X N ad ce μ (k + rm2.cells) (n + rm2.slots) p1 lv (.int (iI a) :: st)) (hst : stk = As.reverse ++ st) : wx_ G X N ad ce μ k n pc lv stk := by
  obtain ⟨p, l, e, R, s, m, args, below, meth, c, Q, A, nL⟩ := X
  intro H locs ls hP hD hS hl
  subst hp
  have hts := C.2.2.1
  have hK := C.2.2.2.2.1
  have hA := C.2.2.2.2.2.1
  have hAb := C.2.2.2.2.2.2.2.2.1
  have hR' : R = rm := C.2.2.2.2.2.2.2.2.2.1
  have hg := C.2.2.2.2.2.2.2.2.2.2.2.1
  subst hR'
  have hsz : G.2.2 ≤ H.size := by
    have h1 := hAb s.heap.size (hA _ (Nat.le_refl _))
    exact Nat.le_trans h1 hS.1
  have hDb : va_D (fun q => G.2.2 ≤ q) (wl_ N ad ce μ) := hD.weaken (fun _ q _ h => hAb q.1 h)
  have hgH : gk_ G s H := gk_kept hg (fun a h1 h2 => hS.2.1 a h1 (fun q => h2 (hAb a q)))
  have hF : ∀ q, va_A (wl_ N ad ce μ) H.size q → A q := fun q h => by
    rcases h with ⟨j, e9, h⟩ | h
    · exact hD.2 j _ h
    · exact hA q (Nat.le_trans hS.1 h)
  have hpre : ∀ U : State, U.heap = H → s.WarmedH U.vm → pr_ G N ad ce μ H.size U := fun U hU hW9 => ⟨by rw [hU], by rw [hU]; exact hP, va_K.moved hW9.alike hK, hDb, hsz, by rw [hU]; exact gk_warm hW9 hgH⟩
  subst hst
  obtain ⟨a9, e9, h⟩ := bd_e h
  have hM9 := hM a9 e9 l H.size
  have hpreV : ∀ U : State, U.heap = H → s.WarmedH U.vm → va_Pc As (pr_ G N ad ce μ H.size) (As).toArray U := fun U hU hW9 => ⟨rfl, hpre U hU hW9⟩
  refine va_calli (va_runS (rest := st) ⟨C.1, C.2.1, C.2.2.2.2.2.2.1, C.2.2.2.1, hts⟩ hM9 ⟨callB_of nA hts (gT_in hca.2.1) rfl rfl rfl (hts _ hca.1) (hts _ m1) hca.2.2 hR, hts _ hcv⟩ ⟨(fun a U g mk q => by obtain ⟨q0, q1, qP, qK, qD, q2, q3⟩ := q; exact ⟨q0, q1, qP, va_K.moved (u := U) (U := U.calling g mk a) (Vm.Alike.refl U.vm) qK, qD, q2, gk_same (u := U) (U := U.calling g mk a) rfl q3⟩), hpreV⟩ rfl hn hl.1 rfl (lv_room hW) d hf) hS (fun q _ h => hF q h) hF (fun r9 u t H1 locs1 ht hvm hw hB hz1 hk1 hS1 => ?_)
  obtain ⟨hP1, hK1, hD1⟩ := hB
  rw [ht] at hP1
  rw [hw]
  exact kk a9 h H1 locs1 ls hP1 (hD1.weaken (fun _ q _ h => hF q.1 h)) hS1 hl
theorem xx_cSv (C : cx_ G X cc own rm ret nl) (p1 : Nat) (hp : pc + 3 = p1) {F : Option mu_T} {f : mu_T → Option α} {y : MethodName} {bytes : ByteArray} {maxL nA index : Nat} {rm2 : Room} {As : List Value} (hca : ca_ y bytes maxL none nA) (hcv : Cond.static y ∈ gT_) (m1 : Cond.methodLink own index y ∈ gT_) (hn : As.length = nA) (hR : rm2.frames + 1 ≤ rm.frames ∧ 8 + (maxL + 11) + rm2.locals ≤ rm.locals) (hf : k + rm2.cells ≤ rm.cells ∧ n + rm2.slots ≤ rm.slots) (hW : (st.map fun v => v.category).sum ≤ 8) (d : decode cc pc = .ok (.invokestatic index, 3)) (hM : ∀ μ1, F = some μ1 → mv_ y bytes maxL rm2 G N ad ce As μ μ1) (h : bd_ F f = some r) (kk : ∀ μ1, f μ1 = some r → wx_ G X N ad ce μ1 (k + rm2.cells) (n + rm2.slots) p1 lv st) (hst : stk = As.reverse ++ st) : wx_ G X N ad ce μ k n pc lv stk := by
  obtain ⟨p, l, e, R, s, m, args, below, meth, c, Q, A, nL⟩ := X
  intro H locs ls hP hD hS hl
  subst hp
  have hts := C.2.2.1
  have hK := C.2.2.2.2.1
  have hA := C.2.2.2.2.2.1
  have hAb := C.2.2.2.2.2.2.2.2.1
  have hR' : R = rm := C.2.2.2.2.2.2.2.2.2.1
  have hg := C.2.2.2.2.2.2.2.2.2.2.2.1
  subst hR'
  have hsz : G.2.2 ≤ H.size := by
    have h1 := hAb s.heap.size (hA _ (Nat.le_refl _))
    exact Nat.le_trans h1 hS.1
  have hDb : va_D (fun q => G.2.2 ≤ q) (wl_ N ad ce μ) := hD.weaken (fun _ q _ h => hAb q.1 h)
  have hgH : gk_ G s H := gk_kept hg (fun a h1 h2 => hS.2.1 a h1 (fun q => h2 (hAb a q)))
  have hF : ∀ q, va_A (wl_ N ad ce μ) H.size q → A q := fun q h => by
    rcases h with ⟨j, e9, h⟩ | h
    · exact hD.2 j _ h
    · exact hA q (Nat.le_trans hS.1 h)
  have hpre : ∀ U : State, U.heap = H → s.WarmedH U.vm → pr_ G N ad ce μ H.size U := fun U hU hW9 => ⟨by rw [hU], by rw [hU]; exact hP, va_K.moved hW9.alike hK, hDb, hsz, by rw [hU]; exact gk_warm hW9 hgH⟩
  subst hst
  obtain ⟨a9, e9, h⟩ := bd_e h
  have hM9 := hM a9 e9 l H.size
  have hpreV : ∀ U : State, U.heap = H → s.WarmedH U.vm → va_Pc As (pr_ G N ad ce μ H.size) (As).toArray U := fun U hU hW9 => ⟨rfl, hpre U hU hW9⟩
  refine va_callv (va_runS (rest := st) ⟨C.1, C.2.1, C.2.2.2.2.2.2.1, C.2.2.2.1, hts⟩ hM9 ⟨callB_of nA hts (gT_in hca.2.1) rfl rfl rfl (hts _ hca.1) (hts _ m1) hca.2.2 hR, hts _ hcv⟩ ⟨(fun a U g mk q => by obtain ⟨q0, q1, qP, qK, qD, q2, q3⟩ := q; exact ⟨q0, q1, qP, va_K.moved (u := U) (U := U.calling g mk a) (Vm.Alike.refl U.vm) qK, qD, q2, gk_same (u := U) (U := U.calling g mk a) rfl q3⟩), hpreV⟩ rfl hn hl.1 rfl (lv_room hW) d hf) hS (fun q _ h => hF q h) hF (fun u t H1 locs1 ht hvm hw hB hz1 hk1 hS1 => ?_)
  obtain ⟨hP1, hK1, hD1⟩ := hB
  rw [ht] at hP1
  exact kk a9 h H1 locs1 ls hP1 (hD1.weaken (fun _ q _ h => hF q.1 h)) hS1 hl
theorem xx_zretl (C : cx_ G X cc own rm ret nl) {e0 a : Int} {ty : FieldType} (E : ei_ G X N ad ce a μ rm) (hr : ret = some ty) (hz : narrow ty (.int (iI e0)) = .int (iI e0)) (hk : k ≤ rm.cells ∧ n ≤ rm.slots) (d : decode cc pc = .ok (.ireturn, 1)) (h : some e0 = some a) : wx_ G X N ad ce μ k n pc lv [.int (iI e0)] := xx_zret C E hr hz hk d (by rw [Option.some.inj h])
theorem jn_r {φ : Type} {f : φ} {kf : φ → Option α} {Z : Prop} (P : φ → Prop) (h : jn_ f kf = some r) (K : P f) (B : ∀ J, P J → kf J = some r → Z) : Z := B f K h
/-- the targets of a switch, one behind another -/
def al_ (G : gp_) (X : ct_) (N : Nat) (ad : Nat → Nat) (ce : Nat → (Int → Int) → va_E) (μ : mu_T) (k n : Nat) (lv : List (Nat × Value)) (st : List Value) (r : α) : List (Option α) → List Nat → Prop
  | b :: bs, t :: ts => (b = some r → wx_ G X N ad ce μ k n t lv st) ∧ al_ G X N ad ce μ k n lv st r bs ts
  | _, _ => True
theorem al_at (i : Nat) : ∀ {bs : List (Option α)} {ts : List Nat} {b : Option α} {t : Nat}, al_ G X N ad ce μ k n lv st r bs ts → bs[i]? = some b → ts[i]? = some t → b = some r → wx_ G X N ad ce μ k n t lv st := by
  induction i with
  | zero =>
    intro bs ts b t h hb ht hr
    cases bs with
    | nil => cases hb
    | cons b1 bs => cases ts with
      | nil => cases ht
      | cons t1 ts => cases hb; cases ht; exact h.1 hr
  | succ i ih =>
    intro bs ts b t h hb ht hr
    cases bs with
    | nil => cases hb
    | cons b1 bs => cases ts with
      | nil => cases ht
      | cons t1 ts => exact ih h.2 hb ht hr
theorem xx_tsw (C : cx_ G X cc own rm ret nl) {a dflt lo hi : Int} {offs : Array Int} {len : Nat} (vs : List Int) (bs : List (Option α)) (ts : List Nat) (tD : Nat) {df : Option α} (d : decode cc pc = .ok (.tableswitch dflt lo hi offs, len)) (hc : tk_ pc dflt lo hi offs.toList vs ts tD = true) (hl2 : vs.length = bs.length) (h : ts_ a vs bs df = some r) (kd : df = some r → wx_ G X N ad ce μ k n tD lv st) (kk : al_ G X N ad ce μ k n lv st r bs ts) : wx_ G X N ad ce μ k n pc lv (.int (iI a) :: st) := by
  obtain ⟨p, l, e, R, s, m, args, below, meth, c, Q, A, nL⟩ := X
  intro H locs ls hP hD hS hl
  obtain ⟨hr, h⟩ := ck_e h
  rcases tw_e2 hl2 h with ⟨hno, h⟩ | ⟨i, b, h1, h2, h3⟩
  · by_cases hlo : a < lo ∨ hi < a
    · exact lv_tableOut C.1 C.2.1 d (by rw [iI_toInt hr]; exact hlo) (tk_d hc) (kd h H locs ls hP hD hS hl)
    · obtain ⟨off, ho, he⟩ := tk_o hc (a := a) (by omega) hno
      exact lv_tableIn C.1 C.2.1 d (by rw [iI_toInt hr]; omega) (by rw [iI_toInt hr]; omega) (by rw [iI_toInt hr, ← Array.getElem?_toList]; exact ho) he (kd h H locs ls hP hD hS hl)
  · obtain ⟨t, off, ht, ho, he, h4, h5⟩ := tk_i hc h1
    exact lv_tableIn C.1 C.2.1 d (by rw [iI_toInt hr]; omega) (by rw [iI_toInt hr]; omega) (by rw [iI_toInt hr, ← Array.getElem?_toList]; exact ho) he (al_at i kk h2 ht h3 H locs ls hP hD hS hl)
end XR
