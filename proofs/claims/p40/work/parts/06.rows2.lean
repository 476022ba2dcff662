/-! more rows over wx_ (written by wip/gen/rows2.py) -/
def sn_ (k : Int) : Int := ((skl_.getD k.toNat []).length : Nat)
def sc_ (k i : Int) : Int := (skl_.getD k.toNat []).getD i.toNat 0
def bl_ (μ : mu_T) (q : Nat) : Int := ((μ q (-1)).toNat : Int)
def rb_ {α : Type} (μ : mu_T) (q : Nat) (i : Int) (f : Int → Option α) : Option α := if (0 ≤ i ∧ i < bl_ μ q) ∧ bl_ μ q < 2147483648 then f (μ q i) else none
def wb_ {α : Type} (μ : mu_T) (q : Nat) (i v : Int) (f : mu_T → Option α) : Option α := if (0 ≤ i ∧ i < bl_ μ q) ∧ bl_ μ q < 2147483648 then f (st_ μ q i (i2b_ v)) else none
def kv_ (G : gp_) (x : Int) : Option Nat := if x < 0 then none else some (G.2.1 (100 + x.toNat))
def rs_ {α : Type} (k i : Int) (f : Int → Option α) : Option α := if (0 ≤ k ∧ k < 16) ∧ 0 ≤ i ∧ i < sn_ k then f (sc_ k i) else none
def ac_ {α : Type} (μ : mu_T) (q1 n1 : Nat) (p1 : Int) (q2 n2 : Nat) (p2 len : Int) (f : mu_T → Option α) : Option α := if 0 ≤ p1 ∧ 0 ≤ p2 ∧ 0 ≤ len ∧ p1 + len ≤ n1 ∧ p2 + len ≤ n2 then f (um_ μ q2 (fun j => if p2 ≤ j ∧ j < p2 + len then μ q1 (p1 + (j - p2)) else μ q2 j)) else none
def rc_ (v : Int) : Option Int := if 0 ≤ v ∧ v < 65536 then some v else none
def mn_ {α : Type} (a b : Int) (f : Int → Option α) : Option α := if rg_ a ∧ rg_ b then f (if b < a then b else a) else none
def mx_ {α : Type} (a b : Int) (f : Int → Option α) : Option α := if rg_ a ∧ rg_ b then f (if a < b then b else a) else none
def dd_ {α : Type} (x y : UInt64) (f : UInt64 → Option α) : Option α := if FP.ddiv x y &&& 0x7fffffffffffffff ≤ 0x7ff0000000000000 then f (FP.ddiv x y) else none
def fd_ {α : Type} (x y : UInt32) (f : UInt32 → Option α) : Option α := if FP.fdiv x y &&& 0x7fffffff ≤ 0x7f800000 then f (FP.fdiv x y) else none
theorem skl_len : ∀ i, i < 16 → (skl_.getD i []).length < 100 := by decide +kernel
section XR
variable {G : gp_} {X : ct_} {N : Nat} {ad : Nat → Nat} {ce : Nat → (Int → Int) → va_E} {μ : mu_T} {k n pc : Nat} {lv lv1 : List (Nat × Value)} {st stk : List Value} {cc : ByteArray} {own : String} {rm : Room} {ret : Option FieldType} {nl : Nat} {α : Type} {r : α}
theorem xx_strv (C : cx_ G X cc own rm ret nl) (p1 : Nat) (hp : pc + 3 = p1) {z : Int} {x : Option α} {index : Nat} (hlink : Cond.fieldLink own index "java/lang/String" "value" "[B" ∈ gT_) (d : decode cc pc = .ok (.getfield index, 3)) (h : gd_ (0 ≤ z ∧ z < 16) x = some r) (kk : x = some r → wx_ G X N ad ce μ k n p1 lv (.ref (G.2.1 (300 + (z : Int).toNat)) :: st)) : wx_ G X N ad ce μ k n pc lv (.ref (G.2.1 (200 + (z : Int).toNat)) :: st) := by
  obtain ⟨p, l, e, R, s, m, args, below, meth, c, Q, A, nL⟩ := X
  intro H locs ls hP hD hS hl
  subst hp
  obtain ⟨⟨hz0, hz1⟩, h⟩ := ck_e h
  have hAb := C.2.2.2.2.2.2.2.2.1
  have hg := C.2.2.2.2.2.2.2.2.2.2.2.1
  have hE := (hg.1 z.toNat (by omega)).narrow (B := A) hAb
  exact vk_getf (ref := "java/lang/String") C.1 C.2.1 (hE.1 0 (by decide)).2.2.1 hS C.2.2.2.1 (C.2.2.1 _ hlink) (fun _ h9 => h9) d (kk h H locs ls hP hD hS hl)
theorem xx_strc (C : cx_ G X cc own rm ret nl) (p1 : Nat) (hp : pc + 3 = p1) {z : Int} {x : Option α} {index : Nat} (hlink : Cond.fieldLink own index "java/lang/String" "coder" "B" ∈ gT_) (d : decode cc pc = .ok (.getfield index, 3)) (h : gd_ (0 ≤ z ∧ z < 16) x = some r) (kk : x = some r → wx_ G X N ad ce μ k n p1 lv (.int (iI 0) :: st)) : wx_ G X N ad ce μ k n pc lv (.ref (G.2.1 (200 + (z : Int).toNat)) :: st) := by
  obtain ⟨p, l, e, R, s, m, args, below, meth, c, Q, A, nL⟩ := X
  intro H locs ls hP hD hS hl
  subst hp
  obtain ⟨⟨hz0, hz1⟩, h⟩ := ck_e h
  have hAb := C.2.2.2.2.2.2.2.2.1
  have hg := C.2.2.2.2.2.2.2.2.2.2.2.1
  have hE := (hg.1 z.toNat (by omega)).narrow (B := A) hAb
  exact vk_getf (ref := "java/lang/String") C.1 C.2.1 (hE.1 0 (by decide)).2.1 hS C.2.2.2.1 (C.2.2.1 _ hlink) (fun _ h9 => h9) d (kk h H locs ls hP hD hS hl)
theorem xx_svlen (C : cx_ G X cc own rm ret nl) (p1 : Nat) (hp : pc + 1 = p1) {z : Int} {x : Option α} (d : decode cc pc = .ok (.arraylength, 1)) (h : gd_ (0 ≤ z ∧ z < 16) x = some r) (kk : x = some r → wx_ G X N ad ce μ k n p1 lv (.int (iI (sn_ z)) :: st)) : wx_ G X N ad ce μ k n pc lv (.ref (G.2.1 (300 + (z : Int).toNat)) :: st) := by
  obtain ⟨p, l, e, R, s, m, args, below, meth, c, Q, A, nL⟩ := X
  intro H locs ls hP hD hS hl
  subst hp
  obtain ⟨⟨hz0, hz1⟩, h⟩ := ck_e h
  have hAb := C.2.2.2.2.2.2.2.2.1
  have hg := C.2.2.2.2.2.2.2.2.2.2.2.1
  have hE := (hg.1 z.toNat (by omega)).narrow (B := A) hAb
  exact va_tlen C.1 C.2.1 (hE.1 0 (by decide)).2.2.2 hS (iI_nat _) d (kk h H locs ls hP hD hS hl)
theorem xx_svld (C : cx_ G X cc own rm ret nl) (p1 : Nat) (hp : pc + 1 = p1) {z i : Int} {f : Int → Option α} (d : decode cc pc = .ok (.baload, 1)) (h : rs_ z i f = some r) (kk : ∀ v, f v = some r → wx_ G X N ad ce μ k n p1 lv (.int (iI v) :: st)) : wx_ G X N ad ce μ k n pc lv (.int (iI i) :: .ref (G.2.1 (300 + (z : Int).toNat)) :: st) := by
  obtain ⟨p, l, e, R, s, m, args, below, meth, c, Q, A, nL⟩ := X
  intro H locs ls hP hD hS hl
  subst hp
  obtain ⟨⟨⟨hz0, hz1⟩, hi0, hi1⟩, h⟩ := ck_e h
  have hAb := C.2.2.2.2.2.2.2.2.1
  have hg := C.2.2.2.2.2.2.2.2.2.2.2.1
  have hE := (hg.1 z.toNat (by omega)).narrow (B := A) hAb
  have hlen : (skl_.getD z.toNat []).length < 100 := skl_len _ (by omega)
  have hi2 : i < ((skl_.getD z.toNat []).length : Nat) := hi1
  have hc : (iI i).toNatClampNeg = i.toNat := iI_clamp (by omega)
  refine va_tb C.1 C.2.1 (hE.1 0 (by decide)).2.2.2 hS (iI_in hi0 hi2 (by show (skl_.getD z.toNat []).length < 2147483648; omega)) (v := .int (iI (sc_ z i))) ?_ d (kk _ h H locs ls hP hD hS hl)
  show Value.int (((skl_.getD z.toNat []).map iI).getD (iI i).toNatClampNeg 0) = _
  rw [hc]
  unfold sc_
  generalize skl_.getD z.toNat [] = L9 at hi2 ⊢
  have h9 : i.toNat < L9.length := by omega
  rw [List.getD_eq_getElem?_getD, List.getElem?_map, List.getD_eq_getElem?_getD, List.getElem?_eq_getElem h9]
  rfl
theorem xx_gcs (C : cx_ G X cc own rm ret nl) (p1 : Nat) (hp : pc + 3 = p1) {index : Nat} (hlink : Cond.fieldLink own index "java/lang/String" "COMPACT_STRINGS" "Z" ∈ gT_) (d : decode cc pc = .ok (.getstatic index, 3)) (h : wx_ G X N ad ce μ k n p1 lv (.int (iI 1) :: st)) : wx_ G X N ad ce μ k n pc lv st := by
  obtain ⟨p, l, e, R, s, m, args, below, meth, c, Q, A, nL⟩ := X
  intro H locs ls hP hD hS hl
  subst hp
  have hAb := C.2.2.2.2.2.2.2.2.1
  have hg := C.2.2.2.2.2.2.2.2.2.2.2.1
  exact va_gets (ref := "java/lang/String") C.1 C.2.1 (va_Z.narrow (hg.2.2.1.1) hAb) hS C.2.2.2.1 (C.2.2.1 _ hlink) (fun _ h9 => h9) d (h H locs ls hP hD hS hl)
theorem xx_gsf (C : cx_ G X cc own rm ret nl) (p1 : Nat) (hp : pc + 3 = p1) {index : Nat} (hlink : Cond.fieldLink own index "jdk/internal/util/Preconditions" "SIOOBE_FORMATTER" "Ljava/util/function/BiFunction;" ∈ gT_) (d : decode cc pc = .ok (.getstatic index, 3)) (h : wx_ G X N ad ce μ k n p1 lv (va_rf (gz_ G) :: st)) : wx_ G X N ad ce μ k n pc lv st := by
  obtain ⟨p, l, e, R, s, m, args, below, meth, c, Q, A, nL⟩ := X
  intro H locs ls hP hD hS hl
  subst hp
  have hAb := C.2.2.2.2.2.2.2.2.1
  have hg := C.2.2.2.2.2.2.2.2.2.2.2.1
  exact va_gets (ref := "jdk/internal/util/Preconditions") C.1 C.2.1 (va_Z.narrow (hg.2.2.1.2.1) hAb) hS C.2.2.2.1 (C.2.2.1 _ hlink) (fun _ h9 => h9) d (h H locs ls hP hD hS hl)
theorem xx_gsm (C : cx_ G X cc own rm ret nl) (p1 : Nat) (hp : pc + 3 = p1) {index : Nat} (hlink : Cond.fieldLink own index "UrnHeap$1" "$SwitchMap$UrnHeap$Kind" "[I" ∈ gT_) (d : decode cc pc = .ok (.getstatic index, 3)) (h : wx_ G X N ad ce μ k n p1 lv (.ref (G.2.1 1) :: st)) : wx_ G X N ad ce μ k n pc lv st := by
  obtain ⟨p, l, e, R, s, m, args, below, meth, c, Q, A, nL⟩ := X
  intro H locs ls hP hD hS hl
  subst hp
  have hAb := C.2.2.2.2.2.2.2.2.1
  have hg := C.2.2.2.2.2.2.2.2.2.2.2.1
  exact va_gets (ref := "UrnHeap$1") C.1 C.2.1 (va_Z.narrow (hg.2.2.1.2.2.2.1) hAb) hS C.2.2.2.1 (C.2.2.1 _ hlink) (fun _ h9 => h9) d (h H locs ls hP hD hS hl)
theorem xx_gd1 (C : cx_ G X cc own rm ret nl) (p1 : Nat) (hp : pc + 3 = p1) {index : Nat} (hlink : Cond.fieldLink own index "java/lang/Integer" "DigitOnes" "[B" ∈ gT_) (d : decode cc pc = .ok (.getstatic index, 3)) (h : wx_ G X N ad ce μ k n p1 lv (.ref (G.2.1 3) :: st)) : wx_ G X N ad ce μ k n pc lv st := by
  obtain ⟨p, l, e, R, s, m, args, below, meth, c, Q, A, nL⟩ := X
  intro H locs ls hP hD hS hl
  subst hp
  have hAb := C.2.2.2.2.2.2.2.2.1
  have hg := C.2.2.2.2.2.2.2.2.2.2.2.1
  exact va_gets (ref := "java/lang/Integer") C.1 C.2.1 (va_Z.narrow (hg.2.2.1.2.2.2.2.1) hAb) hS C.2.2.2.1 (C.2.2.1 _ hlink) (fun _ h9 => h9) d (h H locs ls hP hD hS hl)
theorem xx_gd0 (C : cx_ G X cc own rm ret nl) (p1 : Nat) (hp : pc + 3 = p1) {index : Nat} (hlink : Cond.fieldLink own index "java/lang/Integer" "DigitTens" "[B" ∈ gT_) (d : decode cc pc = .ok (.getstatic index, 3)) (h : wx_ G X N ad ce μ k n p1 lv (.ref (G.2.1 4) :: st)) : wx_ G X N ad ce μ k n pc lv st := by
  obtain ⟨p, l, e, R, s, m, args, below, meth, c, Q, A, nL⟩ := X
  intro H locs ls hP hD hS hl
  subst hp
  have hAb := C.2.2.2.2.2.2.2.2.1
  have hg := C.2.2.2.2.2.2.2.2.2.2.2.1
  exact va_gets (ref := "java/lang/Integer") C.1 C.2.1 (va_Z.narrow (hg.2.2.1.2.2.2.2.2) hAb) hS C.2.2.2.1 (C.2.2.1 _ hlink) (fun _ h9 => h9) d (h H locs ls hP hD hS hl)
theorem xx_gall (C : cx_ G X cc own rm ret nl) (p1 : Nat) (hp : pc + 3 = p1) (ho : own = "UrnHeap$Orders") (d : decode cc pc = .ok (.getstatic 60, 3)) (h : wx_ G X N ad ce μ k n p1 lv (.ref (G.2.1 2) :: st)) : wx_ G X N ad ce μ k n pc lv st := by
  obtain ⟨p, l, e, R, s, m, args, below, meth, c, Q, A, nL⟩ := X
  intro H locs ls hP hD hS hl
  subst hp
  have hAb := C.2.2.2.2.2.2.2.2.1
  have hg := C.2.2.2.2.2.2.2.2.2.2.2.1
  subst ho
  exact va_getsN (ref := "UrnHeap$Kind") (host := "UrnHeap") C.1 C.2.1 (va_Z.narrow hg.2.2.1.2.2.1 hAb) hS C.2.2.2.1 (va_Nw.use rfl hg.2.2.2.2.2.1) (fun _ h9 => h9) d (h H locs ls hP hD hS hl)
theorem xx_alllen (C : cx_ G X cc own rm ret nl) (p1 : Nat) (hp : pc + 1 = p1) (d : decode cc pc = .ok (.arraylength, 1)) (h : wx_ G X N ad ce μ k n p1 lv (.int (iI 10) :: st)) : wx_ G X N ad ce μ k n pc lv (.ref (G.2.1 2) :: st) := by
  obtain ⟨p, l, e, R, s, m, args, below, meth, c, Q, A, nL⟩ := X
  intro H locs ls hP hD hS hl
  subst hp
  have hAb := C.2.2.2.2.2.2.2.2.1
  have hg := C.2.2.2.2.2.2.2.2.2.2.2.1
  exact va_tlen C.1 C.2.1 (va_T.narrow hg.2.2.2.1.1 hAb) hS (iI_nat _) d (h H locs ls hP hD hS hl)
theorem xx_alda (C : cx_ G X cc own rm ret nl) (p1 : Nat) (hp : pc + 1 = p1) {i : Int} {x : Option α} (d : decode cc pc = .ok (.aaload, 1)) (h : gd_ (0 ≤ i ∧ i < 10) x = some r) (kk : x = some r → wx_ G X N ad ce μ k n p1 lv (.ref (G.2.1 (100 + (i : Int).toNat)) :: st)) : wx_ G X N ad ce μ k n pc lv (.int (iI i) :: .ref (G.2.1 2) :: st) := by
  obtain ⟨p, l, e, R, s, m, args, below, meth, c, Q, A, nL⟩ := X
  intro H locs ls hP hD hS hl
  subst hp
  obtain ⟨⟨h0, h1⟩, h⟩ := ck_e h
  have hAb := C.2.2.2.2.2.2.2.2.1
  have hg := C.2.2.2.2.2.2.2.2.2.2.2.1
  exact vb_tq C.1 C.2.1 (va_T.narrow hg.2.2.2.1.1 hAb) hS (iI_in h0 h1 (by decide)) (by rw [iI_clamp (by omega)]) d (kk h H locs ls hP hD hS hl)
theorem xx_smld (C : cx_ G X cc own rm ret nl) (p1 : Nat) (hp : pc + 1 = p1) {i : Int} {x : Option α} (d : decode cc pc = .ok (.iaload, 1)) (h : gd_ (0 ≤ i ∧ i < 10) x = some r) (kk : x = some r → wx_ G X N ad ce μ k n p1 lv (.int (iI (i + 1)) :: st)) : wx_ G X N ad ce μ k n pc lv (.int (iI i) :: .ref (G.2.1 1) :: st) := by
  obtain ⟨p, l, e, R, s, m, args, below, meth, c, Q, A, nL⟩ := X
  intro H locs ls hP hD hS hl
  subst hp
  obtain ⟨⟨h0, h1⟩, h⟩ := ck_e h
  have hAb := C.2.2.2.2.2.2.2.2.1
  have hg := C.2.2.2.2.2.2.2.2.2.2.2.1
  refine va_ti C.1 C.2.1 (va_T.narrow hg.2.2.2.1.2.1 hAb) hS (iI_in h0 h1 (by decide)) (v := .int (iI (i + 1))) (by rw [iI_clamp (by omega)]; congr 2; omega) d (kk h H locs ls hP hD hS hl)
theorem xx_d1ld (C : cx_ G X cc own rm ret nl) (p1 : Nat) (hp : pc + 1 = p1) {i : Int} {x : Option α} (d : decode cc pc = .ok (.baload, 1)) (h : gd_ (0 ≤ i ∧ i < 100) x = some r) (kk : x = some r → wx_ G X N ad ce μ k n p1 lv (.int (iI (48 + i % 10)) :: st)) : wx_ G X N ad ce μ k n pc lv (.int (iI i) :: .ref (G.2.1 3) :: st) := by
  obtain ⟨p, l, e, R, s, m, args, below, meth, c, Q, A, nL⟩ := X
  intro H locs ls hP hD hS hl
  subst hp
  obtain ⟨⟨h0, h1⟩, h⟩ := ck_e h
  have hAb := C.2.2.2.2.2.2.2.2.1
  have hg := C.2.2.2.2.2.2.2.2.2.2.2.1
  refine va_tb C.1 C.2.1 (va_T.narrow hg.2.2.2.1.2.2.1 hAb) hS (iI_in h0 h1 (by decide)) (v := .int (iI (48 + i % 10))) (by rw [iI_clamp (by omega)]; congr 2; omega) d (kk h H locs ls hP hD hS hl)
theorem xx_d0ld (C : cx_ G X cc own rm ret nl) (p1 : Nat) (hp : pc + 1 = p1) {i : Int} {x : Option α} (d : decode cc pc = .ok (.baload, 1)) (h : gd_ (0 ≤ i ∧ i < 100) x = some r) (kk : x = some r → wx_ G X N ad ce μ k n p1 lv (.int (iI (48 + i / 10)) :: st)) : wx_ G X N ad ce μ k n pc lv (.int (iI i) :: .ref (G.2.1 4) :: st) := by
  obtain ⟨p, l, e, R, s, m, args, below, meth, c, Q, A, nL⟩ := X
  intro H locs ls hP hD hS hl
  subst hp
  obtain ⟨⟨h0, h1⟩, h⟩ := ck_e h
  have hAb := C.2.2.2.2.2.2.2.2.1
  have hg := C.2.2.2.2.2.2.2.2.2.2.2.1
  refine va_tb C.1 C.2.1 (va_T.narrow hg.2.2.2.1.2.2.2 hAb) hS (iI_in h0 h1 (by decide)) (v := .int (iI (48 + i / 10))) (by rw [iI_clamp (by omega)]; congr 2; omega) d (kk h H locs ls hP hD hS hl)
theorem xx_form (C : cx_ G X cc own rm ret nl) (p1 : Nat) (hp : pc + 3 = p1) {z : Int} {x : Option α} {index : Nat} (hlink : Cond.fieldLink own index "UrnHeap$Kind" "form" "Ljava/lang/String;" ∈ gT_) (d : decode cc pc = .ok (.getfield index, 3)) (h : gd_ (0 ≤ z ∧ z < 10) x = some r) (kk : x = some r → wx_ G X N ad ce μ k n p1 lv (.ref (G.2.1 (200 + (z : Int).toNat)) :: st)) : wx_ G X N ad ce μ k n pc lv (.ref (G.2.1 (100 + (z : Int).toNat)) :: st) := by
  obtain ⟨p, l, e, R, s, m, args, below, meth, c, Q, A, nL⟩ := X
  intro H locs ls hP hD hS hl
  subst hp
  obtain ⟨⟨hz0, hz1⟩, h⟩ := ck_e h
  have hAb := C.2.2.2.2.2.2.2.2.1
  have hg := C.2.2.2.2.2.2.2.2.2.2.2.1
  have hE := hg.2.1 z.toNat (by omega)
  exact vk_getf (ref := "UrnHeap$Kind") C.1 C.2.1 (va_OF.narrow hE.2.2 hAb) hS C.2.2.2.1 (C.2.2.1 _ hlink) (fun _ h9 => h9) d (kk h H locs ls hP hD hS hl)
theorem xx_ord (C : cx_ G X cc own rm ret nl) (p1 : Nat) (hp : pc + 3 = p1) {z : Int} {x : Option α} {index : Nat} (hlink : Cond.fieldLink own index "java/lang/Enum" "ordinal" "I" ∈ gT_) (d : decode cc pc = .ok (.getfield index, 3)) (h : gd_ (0 ≤ z ∧ z < 10) x = some r) (kk : x = some r → wx_ G X N ad ce μ k n p1 lv (.int (iI z) :: st)) : wx_ G X N ad ce μ k n pc lv (.ref (G.2.1 (100 + (z : Int).toNat)) :: st) := by
  obtain ⟨p, l, e, R, s, m, args, below, meth, c, Q, A, nL⟩ := X
  intro H locs ls hP hD hS hl
  subst hp
  obtain ⟨⟨hz0, hz1⟩, h⟩ := ck_e h
  have hAb := C.2.2.2.2.2.2.2.2.1
  have hg := C.2.2.2.2.2.2.2.2.2.2.2.1
  have hE := hg.2.1 z.toNat (by omega)
  have hzz : ((z.toNat : Nat) : Int) = z := by omega
  have hE1 := hE.2.1
  rw [hzz] at hE1
  exact vk_getf (ref := "java/lang/Enum") C.1 C.2.1 (va_OF.narrow hE1 hAb) hS C.2.2.2.1 (C.2.2.1 _ hlink) (fun _ h9 => h9) d (kk h H locs ls hP hD hS hl)
theorem xx_ldcs (C : cx_ G X cc own rm ret nl) (p1 : Nat) (hp : pc + 2 = p1) (i : Nat) {tx : String} {index : Nat} (ho : own = "UrnHeapLaw") (hw : swl_[i]? = some (index, tx)) (d : decode cc pc = .ok (.ldc index, 2)) (h : wx_ G X N ad ce μ k n p1 lv (.ref (G.2.1 (210 + i)) :: st)) : wx_ G X N ad ce μ k n pc lv st := by
  obtain ⟨p, l, e, R, s, m, args, below, meth, c, Q, A, nL⟩ := X
  intro H locs ls hP hD hS hl
  subst hp
  have hAb := C.2.2.2.2.2.2.2.2.1
  have hg := C.2.2.2.2.2.2.2.2.2.2.2.1
  subst ho
  exact va_ldcS C.1 C.2.1 C.2.2.2.1 (hg.2.2.2.2.2.2.1 i _ hw) d (h H locs ls hP hD hS hl)
theorem xx_ldci (C : cx_ G X cc own rm ret nl) (p1 : Nat) (hp : pc + 2 = p1) {v : Int} {index : Nat} (hw : Cond.constant own index (iI v) ∈ gT_) (d : decode cc pc = .ok (.ldc index, 2)) (h : wx_ G X N ad ce μ k n p1 lv (.int (iI v) :: st)) : wx_ G X N ad ce μ k n pc lv st := by
  obtain ⟨p, l, e, R, s, m, args, below, meth, c, Q, A, nL⟩ := X
  intro H locs ls hP hD hS hl
  subst hp
  exact lv_ldc C.1 C.2.1 C.2.2.2.1 (C.2.2.1 _ hw) d (h H locs ls hP hD hS hl)
theorem xx_ldcwi (C : cx_ G X cc own rm ret nl) (p1 : Nat) (hp : pc + 3 = p1) {v : Int} {index : Nat} (hw : Cond.constant own index (iI v) ∈ gT_) (d : decode cc pc = .ok (.ldc_w index, 3)) (h : wx_ G X N ad ce μ k n p1 lv (.int (iI v) :: st)) : wx_ G X N ad ce μ k n pc lv st := by
  obtain ⟨p, l, e, R, s, m, args, below, meth, c, Q, A, nL⟩ := X
  intro H locs ls hP hD hS hl
  subst hp
  exact lv_ldcw C.1 C.2.1 C.2.2.2.1 (C.2.2.1 _ hw) d (h H locs ls hP hD hS hl)
theorem xx_blen (C : cx_ G X cc own rm ret nl) (p1 : Nat) (hp : pc + 1 = p1) {q : Nat} {f : Int → Option α} (hq : q < N) (he : ∀ row, ce q row = .inl (G.1.1 101, (row (-1)).toNat, .inl (fun j => iI (row (j : Nat))))) (d : decode cc pc = .ok (.arraylength, 1)) (h : nm_ (bl_ μ q) f = some r) (kk : ∀ v, f v = some r → wx_ G X N ad ce μ k n p1 lv (.int (iI v) :: st)) : wx_ G X N ad ce μ k n pc lv (.ref (ad q) :: st) := by
  obtain ⟨p, l, e, R, s, m, args, below, meth, c, Q, A, nL⟩ := X
  intro H locs ls hP hD hS hl
  subst hp
  exact va_alen C.1 C.2.1 C.2.2.2.2.1 hP q 1 ((wl_get hq).trans (by rw [he])) rfl (iI_nat (μ q (-1)).toNat) d (kk _ h H locs ls hP hD hS hl)
theorem xx_baload (C : cx_ G X cc own rm ret nl) (p1 : Nat) (hp : pc + 1 = p1) {q : Nat} {i : Int} {f : Int → Option α} (hq : q < N) (he : ∀ row, ce q row = .inl (G.1.1 101, (row (-1)).toNat, .inl (fun j => iI (row (j : Nat))))) (d : decode cc pc = .ok (.baload, 1)) (h : rb_ μ q i f = some r) (kk : ∀ v, f v = some r → wx_ G X N ad ce μ k n p1 lv (.int (iI v) :: st)) : wx_ G X N ad ce μ k n pc lv (.int (iI i) :: .ref (ad q) :: st) := by
  obtain ⟨p, l, e, R, s, m, args, below, meth, c, Q, A, nL⟩ := X
  intro H locs ls hP hD hS hl
  subst hp
  obtain ⟨⟨⟨h0, h1⟩, h2⟩, h⟩ := ck_e h
  unfold bl_ at h1 h2
  refine va_bald C.1 C.2.1 C.2.2.2.2.1 hP q 1 ((wl_get hq).trans (by rw [he])) rfl (iI_in h0 h1 (by omega)) d ?_
  have e1 : (((iI i).toNatClampNeg : Nat) : Int) = i := by rw [iI_clamp (by omega)]; omega
  show W _ _ _ _ _ _ _ _ _ _ _ _ _ _ _ (F0 m (pc + 1) ls (.int (iI (μ q (((iI i).toNatClampNeg : Nat) : Int))) :: st))
  rw [e1]
  exact kk _ h H locs ls hP hD hS hl
theorem xx_bastore (C : cx_ G X cc own rm ret nl) (p1 : Nat) (hp : pc + 1 = p1) {q : Nat} {i v : Int} {f : mu_T → Option α} (hq : q < N) (he : ∀ row, ce q row = .inl (G.1.1 101, (row (-1)).toNat, .inl (fun j => iI (row (j : Nat))))) (d : decode cc pc = .ok (.bastore, 1)) (h : wb_ μ q i v f = some r) (kk : ∀ μ1, f μ1 = some r → wx_ G X N ad ce μ1 k n p1 lv st) : wx_ G X N ad ce μ k n pc lv (.int (iI v) :: .int (iI i) :: .ref (ad q) :: st) := by
  obtain ⟨p, l, e, R, s, m, args, below, meth, c, Q, A, nL⟩ := X
  intro H locs ls hP hD hS hl
  subst hp
  obtain ⟨⟨⟨h0, h1⟩, h2⟩, h⟩ := ck_e h
  have hb1 : i < ((μ q (-1)).toNat : Int) := h1
  have hb2 : ((μ q (-1)).toNat : Int) < 2147483648 := h2
  refine va_bast C.1 C.2.1 C.2.2.2.2.1 hP hD hS q 1 ((wl_get hq).trans (by rw [he])) rfl (iI_in h0 hb1 (by omega)) d (fun H1 locs1 hP1 hD1 hS1 => ?_)
  have e1 : (upd (fun j : Nat => iI (μ q (j : Int))) (iI i).toNatClampNeg (vp_nar .byte (iI v))) = fun j : Nat => iI (ur_ (μ q) i (i2b_ v) (j : Int)) := by
    funext j
    rw [iI_clamp (by omega), vp_nar_byte]
    unfold upd ur_
    by_cases hj : j = i.toNat
    · rw [if_pos hj, if_pos (by omega)]
      unfold i2b_
      exact (iI_of _).symm
    · rw [if_neg hj, if_neg (by omega)]
  have e2 : ur_ (μ q) i (i2b_ v) (-1) = μ q (-1) := if_neg (by omega)
  have e3 : ce q (ur_ (μ q) i (i2b_ v)) = .inl (G.1.1 101, (μ q (-1)).toNat, .inl (upd (fun j : Nat => iI (μ q (j : Int))) (iI i).toNatClampNeg (vp_nar .byte (iI v)))) := by rw [he, e1, e2]
  rw [← e3, wl_set] at hP1 hD1
  exact kk _ h H1 locs1 ls hP1 hD1 hS1 hl
theorem xx_ifnonnull (C : cx_ G X cc own rm ret nl) {x : Nat} {off : Int} (tgt : Nat) (d : decode cc pc = .ok (.ifnonnull off, 3)) (ht : (pc : Int) + off = (tgt : Int)) (h : wx_ G X N ad ce μ k n tgt lv st) : wx_ G X N ad ce μ k n pc lv (.ref x :: st) := by
  obtain ⟨p, l, e, R, s, m, args, below, meth, c, Q, A, nL⟩ := X
  intro H locs ls hP hD hS hl
  exact lv_ifnonnull C.1 C.2.1 d ht (h H locs ls hP hD hS hl)
theorem xx_ifnull (C : cx_ G X cc own rm ret nl) (p1 : Nat) (hp : pc + 3 = p1) {x : Nat} {off : Int} (d : decode cc pc = .ok (.ifnull off, 3)) (h : wx_ G X N ad ce μ k n p1 lv st) : wx_ G X N ad ce μ k n pc lv (.ref x :: st) := by
  obtain ⟨p, l, e, R, s, m, args, below, meth, c, Q, A, nL⟩ := X
  intro H locs ls hP hD hS hl
  subst hp
  exact lv_ifnull C.1 C.2.1 d (h H locs ls hP hD hS hl)
theorem xx_ifnullN (C : cx_ G X cc own rm ret nl) {off : Int} (tgt : Nat) (d : decode cc pc = .ok (.ifnull off, 3)) (ht : (pc : Int) + off = (tgt : Int)) (h : wx_ G X N ad ce μ k n tgt lv st) : wx_ G X N ad ce μ k n pc lv (.null :: st) := by
  obtain ⟨p, l, e, R, s, m, args, below, meth, c, Q, A, nL⟩ := X
  intro H locs ls hP hD hS hl
  exact lv_ifnullN C.1 C.2.1 d ht (h H locs ls hP hD hS hl)
theorem xx_ifnullK (C : cx_ G X cc own rm ret nl) (p1 : Nat) (hp : pc + 3 = p1) {z : Int} {off : Int} {t f : Option α} {tgt : Nat} (d : decode cc pc = .ok (.ifnull off, 3)) (ht : (pc : Int) + off = (tgt : Int)) (h : (if z < 0 then t else f) = some r) (k1 : t = some r → wx_ G X N ad ce μ k n tgt lv st) (k2 : f = some r → wx_ G X N ad ce μ k n p1 lv st) : wx_ G X N ad ce μ k n pc lv (va_rf (kv_ G z) :: st) := by
  obtain ⟨p, l, e, R, s, m, args, below, meth, c, Q, A, nL⟩ := X
  intro H locs ls hP hD hS hl
  subst hp
  unfold kv_
  split at h
  next hc => rw [if_pos hc]; exact lv_ifnullN C.1 C.2.1 d ht (k1 h H locs ls hP hD hS hl)
  next hc => rw [if_neg hc]; exact lv_ifnull C.1 C.2.1 d (k2 h H locs ls hP hD hS hl)
theorem xx_knn {z : Int} {x : Option α} (h : gd_ (0 ≤ z ∧ z < 10) x = some r) (kk : x = some r → wx_ G X N ad ce μ k n pc lv (.ref (G.2.1 (100 + (z : Int).toNat)) :: st)) : wx_ G X N ad ce μ k n pc lv (va_rf (kv_ G z) :: st) := by
  obtain ⟨hz, h⟩ := ck_e h
  have e : va_rf (kv_ G z) = .ref (G.2.1 (100 + (z : Int).toNat)) := by unfold kv_; rw [if_neg (by omega)]; rfl
  rw [e]
  exact kk h
theorem xx_aldk (C : cx_ G X cc own rm ret nl) (p1 : Nat) (hp : pc + 1 = p1) {q nA : Nat} {i : Int} {f : Int → Option α} (hq : q < N) (he : ∀ row, ce q row = .inl (G.1.1 103, nA, .inr (.inr (.inr (.inr (fun j => kv_ G (row (j : Nat)))))))) (hn : nA < 2147483648) (d : decode cc pc = .ok (.aaload, 1)) (h : rd_ μ q nA i f = some r) (kk : ∀ v, f v = some r → wx_ G X N ad ce μ k n p1 lv (va_rf (kv_ G v) :: st)) : wx_ G X N ad ce μ k n pc lv (.int (iI i) :: .ref (ad q) :: st) := by
  obtain ⟨p, l, e, R, s, m, args, below, meth, c, Q, A, nL⟩ := X
  intro H locs ls hP hD hS hl
  subst hp
  obtain ⟨⟨h0, h1⟩, h⟩ := ck_e h
  refine va_aldq C.1 C.2.1 C.2.2.2.2.1 hP q 3 ((wl_get hq).trans (by rw [he])) rfl (iI_in h0 h1 hn) d ?_
  have e1 : (((iI i).toNatClampNeg : Nat) : Int) = i := by rw [iI_clamp (by omega)]; omega
  show W _ _ _ _ _ _ _ _ _ _ _ _ _ _ _ (F0 m (pc + 1) ls (va_rf (kv_ G (μ q (((iI i).toNatClampNeg : Nat) : Int))) :: st))
  rw [e1]
  exact kk _ h H locs ls hP hD hS hl
theorem xx_astk (C : cx_ G X cc own rm ret nl) (p1 : Nat) (hp : pc + 1 = p1) {q nA : Nat} {i z : Int} {f : mu_T → Option α} (hq : q < N) (he : ∀ row, ce q row = .inl (G.1.1 103, nA, .inr (.inr (.inr (.inr (fun j => kv_ G (row (j : Nat)))))))) (hn : nA < 2147483648) (d : decode cc pc = .ok (.aastore, 1)) (h : gd_ (0 ≤ z ∧ z < 10) (wr_ μ q nA i z f) = some r) (kk : ∀ μ1, f μ1 = some r → wx_ G X N ad ce μ1 k n p1 lv st) : wx_ G X N ad ce μ k n pc lv (.ref (G.2.1 (100 + (z : Int).toNat)) :: .int (iI i) :: .ref (ad q) :: st) := by
  obtain ⟨p, l, e, R, s, m, args, below, meth, c, Q, A, nL⟩ := X
  intro H locs ls hP hD hS hl
  subst hp
  obtain ⟨⟨hz0, hz1⟩, h⟩ := ck_e h
  obtain ⟨⟨h0, h1⟩, h⟩ := ck_e h
  have hAb := C.2.2.2.2.2.2.2.2.1
  have hg := C.2.2.2.2.2.2.2.2.2.2.2.1
  have hany : va_Any "UrnHeap$Kind" s H (G.2.1 (100 + z.toNat)) := by
    obtain ⟨cell, g1, g2, g3, g4⟩ := (hg.2.1 z.toNat (by omega)).1
    have g5 : H[G.2.1 (100 + z.toNat)]? = some cell := by
      rw [hS.2.1 _ (Array.getElem?_eq_some_iff.mp g1).1 (fun q => g4 (hAb _ q))]
      exact g1
    obtain ⟨kC, hkC, hnm⟩ := Vm.findClass_spec g3
    refine ⟨cell, g5, g2, ⟨kC, hkC⟩, fun comp hcomp => ?_⟩
    have e9 : comp = cell.cls := Option.some.inj (hcomp.symm.trans g3)
    subst e9
    exact va_asg _ _
  refine va_astqM (E := "UrnHeap$Kind") C.1 C.2.1 C.2.2.2.2.1 hP hD hS q 3 ((wl_get hq).trans (by rw [he])) rfl hany (iI_in h0 h1 hn) d (fun H1 locs1 hP1 hD1 hS1 => ?_)
  have e1 : (va_up (fun j : Nat => kv_ G (μ q (j : Int))) (iI i).toNatClampNeg (some (G.2.1 (100 + z.toNat)))) = fun j : Nat => kv_ G (ur_ (μ q) i z (j : Int)) := by
    funext j
    rw [iI_clamp (by omega)]
    unfold va_up ur_
    by_cases hj : j = i.toNat
    · rw [if_pos hj, if_pos (by omega)]
      unfold kv_
      rw [if_neg (by omega)]
    · rw [if_neg hj, if_neg (by omega)]
  rw [e1, ← he, wl_set] at hP1 hD1
  exact kk _ h H1 locs1 ls hP1 hD1 hS1 hl
theorem xx_aldp (C : cx_ G X cc own rm ret nl) (p1 : Nat) (hp : pc + 1 = p1) {q nA : Nat} {i : Int} {x : Option α} (hq : q < N) (he : ∀ row, ce q row = .inl (G.1.1 102, nA, .inr (.inr (.inr (.inr (fun j => some (ad (12 * (j + 1))))))))) (hn : nA < 2147483648) (d : decode cc pc = .ok (.aaload, 1)) (h : gd_ (0 ≤ i ∧ i < (nA : Int)) x = some r) (kk : (0 ≤ i ∧ i < (nA : Int)) → x = some r → wx_ G X N ad ce μ k n p1 lv (.ref (ad (12 * (i.toNat + 1) + 0)) :: st)) : wx_ G X N ad ce μ k n pc lv (.int (iI i) :: .ref (ad q) :: st) := by
  obtain ⟨p, l, e, R, s, m, args, below, meth, c, Q, A, nL⟩ := X
  intro H locs ls hP hD hS hl
  subst hp
  obtain ⟨⟨h0, h1⟩, h⟩ := ck_e h
  refine va_aldq C.1 C.2.1 C.2.2.2.2.1 hP q 2 ((wl_get hq).trans (by rw [he])) rfl (iI_in h0 h1 hn) d ?_
  show W _ _ _ _ _ _ _ _ _ _ _ _ _ _ _ (F0 m (pc + 1) ls (.ref (ad (12 * ((iI i).toNatClampNeg + 1))) :: st))
  rw [iI_clamp (by omega)]
  exact kk ⟨h0, h1⟩ h H locs ls hP hD hS hl
theorem xx_plen (C : cx_ G X cc own rm ret nl) (p1 : Nat) (hp : pc + 1 = p1) {q nA : Nat} {f9 : Nat → Option Nat} (hq : q < N) (he : ∀ row, ce q row = .inl (G.1.1 102, nA, .inr (.inr (.inr (.inr f9))))) (d : decode cc pc = .ok (.arraylength, 1)) (h : wx_ G X N ad ce μ k n p1 lv (.int (iI nA) :: st)) : wx_ G X N ad ce μ k n pc lv (.ref (ad q) :: st) := by
  obtain ⟨p, l, e, R, s, m, args, below, meth, c, Q, A, nL⟩ := X
  intro H locs ls hP hD hS hl
  subst hp
  exact va_alen C.1 C.2.1 C.2.2.2.2.1 hP q 2 ((wl_get hq).trans (by rw [he])) rfl (iI_nat nA) d (h H locs ls hP hD hS hl)
theorem xx_klen (C : cx_ G X cc own rm ret nl) (p1 : Nat) (hp : pc + 1 = p1) {q nA : Nat} (hq : q < N) (he : ∀ row, ce q row = .inl (G.1.1 103, nA, .inr (.inr (.inr (.inr (fun j => kv_ G (row (j : Nat)))))))) (d : decode cc pc = .ok (.arraylength, 1)) (h : wx_ G X N ad ce μ k n p1 lv (.int (iI nA) :: st)) : wx_ G X N ad ce μ k n pc lv (.ref (ad q) :: st) := by
  obtain ⟨p, l, e, R, s, m, args, below, meth, c, Q, A, nL⟩ := X
  intro H locs ls hP hD hS hl
  subst hp
  exact va_alen C.1 C.2.1 C.2.2.2.2.1 hP q 3 ((wl_get hq).trans (by rw [he])) rfl (iI_nat nA) d (h H locs ls hP hD hS hl)
theorem xx_acopy (C : cx_ G X cc own rm ret nl) (p1 : Nat) (hp : pc + 3 = p1) {q1 q2 n1 n2 index : Nat} {a1 a2 len : Int} {f : mu_T → Option α} (hq1 : q1 < N) (he1 : ∀ row, ce q1 row = .inl (G.1.1 100, n1, .inl (fun j => iI (row (j : Nat))))) (hq2 : q2 < N) (he2 : ∀ row, ce q2 row = .inl (G.1.1 100, n2, .inl (fun j => iI (row (j : Nat))))) (hn : n1 < 2147483648 ∧ n2 < 2147483648) (hw : Cond.methodLink own index arraycopyName ∈ gT_ ∧ Cond.native arraycopyName ∈ gT_ ∧ Cond.static arraycopyName ∈ gT_ ∧ Cond.initialized "java/lang/System" ∈ gT_) (hR : 1 ≤ rm.frames ∧ (st.map fun v => v.category).sum + (nativeFrameWords "java/lang/System" "arraycopy" 5 + 11) ≤ rm.locals) (d : decode cc pc = .ok (.invokestatic index, 3)) (h : ac_ μ q1 n1 a1 q2 n2 a2 len f = some r) (kk : ∀ μ1, f μ1 = some r → wx_ G X N ad ce μ1 k n p1 lv st) : wx_ G X N ad ce μ k n pc lv (.int (iI len) :: .int (iI a2) :: .ref (ad q2) :: .int (iI a1) :: .ref (ad q1) :: st) := by
  obtain ⟨p, l, e, R, s, m, args, below, meth, c, Q, A, nL⟩ := X
  intro H locs ls hP hD hS hl
  subst hp
  obtain ⟨⟨g1, g2, g3, g4, g5⟩, h⟩ := ck_e h
  have hR' : R = rm := C.2.2.2.2.2.2.2.2.2.1
  have z0 : ∀ {z : Int}, 0 ≤ z → z ≤ 2147483647 → ¬ iI z < 0 := fun {z} h1 h2 q => by
    have := (iI_lt (a := z) (b := 0) (by omega) (by decide)).mp q
    omega
  have c1 : (iI a1).toNatClampNeg = a1.toNat := iI_clamp (by omega)
  have c2 : (iI a2).toNatClampNeg = a2.toNat := iI_clamp (by omega)
  have c3 : (iI len).toNatClampNeg = len.toNat := iI_clamp (by omega)
  refine va_copyi C.1 C.2.1 (C.2.2.2.2.2.2.1.trans hl.1.symm) C.2.2.2.1 (C.2.2.1 _ hw.1) (C.2.2.1 _ hw.2.1) (C.2.2.1 _ hw.2.2.1) (C.2.2.1 _ hw.2.2.2) C.2.2.2.2.1 hP hD hS q1 q2 0 0 ((wl_get hq1).trans (by rw [he1])) ((wl_get hq2).trans (by rw [he2])) rfl rfl rfl (z0 g1 (by omega)) (z0 g2 (by omega)) (z0 g3 (by omega)) (by rw [c1, c3]; omega) (by rw [c2, c3]; omega) (fun _ _ => rfl) (by rw [hR']; exact hR.1) (by rw [hR']; exact hR.2) d (fun H1 locs1 hP1 hD1 hS1 => ?_)
  have e1 : va_cpy (fun j : Nat => iI (μ q1 (j : Int))) (fun j : Nat => iI (μ q2 (j : Int))) (iI a1).toNatClampNeg (iI a2).toNatClampNeg (iI len).toNatClampNeg = fun j : Nat => iI ((fun j : Int => if a2 ≤ j ∧ j < a2 + len then μ q1 (a1 + (j - a2)) else μ q2 j) (j : Int)) := by
    funext j
    rw [c1, c2, c3]
    unfold va_cpy
    by_cases hj : a2.toNat ≤ j ∧ j < a2.toNat + len.toNat
    · rw [if_pos hj]
      show iI (μ q1 _) = iI (if _ then _ else _)
      rw [if_pos (by omega)]
      congr 2
      omega
    · rw [if_neg hj]
      show iI (μ q2 _) = iI (if _ then _ else _)
      rw [if_neg (by omega)]
  rw [e1, ← he2 (fun j : Int => if a2 ≤ j ∧ j < a2 + len then μ q1 (a1 + (j - a2)) else μ q2 j), wl_set] at hP1 hD1
  exact kk _ h H1 locs1 ls hP1 hD1 hS1 hl
theorem xx_mmin (C : cx_ G X cc own rm ret nl) (p1 : Nat) (hp : pc + 3 = p1) {index : Nat} {a b : Int} {f : Int → Option α} (hw : Cond.methodLink own index Lib.Math.min.name ∈ gT_ ∧ Cond.static Lib.Math.min.name ∈ gT_ ∧ Cond.initialized "java/lang/Math" ∈ gT_ ∧ Cond.code Lib.Math.min.name Lib.Math.min.code 2 (some .int) ∈ gT_) (hR : 1 ≤ rm.frames ∧ (st.map fun v => v.category).sum + 13 ≤ rm.locals) (hf : k ≤ rm.cells ∧ n ≤ rm.slots) (d : decode cc pc = .ok (.invokestatic index, 3)) (h : mn_ a b f = some r) (kk : ∀ v, f v = some r → wx_ G X N ad ce μ k n p1 lv (.int (iI v) :: st)) : wx_ G X N ad ce μ k n pc lv (.int (iI b) :: .int (iI a) :: st) := by
  obtain ⟨p, l, e, R, s, m, args, below, meth, c, Q, A, nL⟩ := X
  intro H locs ls hP hD hS hl
  subst hp
  obtain ⟨⟨ha, hb⟩, h⟩ := ck_e h
  have hR' : R = rm := C.2.2.2.2.2.2.2.2.2.1
  refine va_mmin C.1 C.2.1 (C.2.2.2.2.2.2.1.trans hl.1.symm) C.2.2.2.1 (C.2.2.1 _ hw.1) (C.2.2.1 _ hw.2.1) (C.2.2.1 _ hw.2.2.1) (C.2.2.1 _ hw.2.2.2) (by rw [hR']; exact hR.1) (by rw [hR']; exact hR.2) (by rw [hR']; exact hf.1) (by rw [hR']; exact hf.2) d ?_
  have hk := kk _ h H locs ls hP hD hS hl
  by_cases hc : b < a
  · rw [if_pos hc] at hk
    rw [show (if iI b < iI a then iI b else iI a) = iI b from if_pos ((iI_lt hb ha).mpr hc)]
    exact hk
  · rw [if_neg hc] at hk
    rw [show (if iI b < iI a then iI b else iI a) = iI a from if_neg (fun q => hc ((iI_lt hb ha).mp q))]
    exact hk
theorem xx_mmax (C : cx_ G X cc own rm ret nl) (p1 : Nat) (hp : pc + 3 = p1) {index : Nat} {a b : Int} {f : Int → Option α} (hw : Cond.methodLink own index Lib.Math.max.name ∈ gT_ ∧ Cond.static Lib.Math.max.name ∈ gT_ ∧ Cond.initialized "java/lang/Math" ∈ gT_ ∧ Cond.code Lib.Math.max.name Lib.Math.max.code 2 (some .int) ∈ gT_) (hR : 1 ≤ rm.frames ∧ (st.map fun v => v.category).sum + 13 ≤ rm.locals) (hf : k ≤ rm.cells ∧ n ≤ rm.slots) (d : decode cc pc = .ok (.invokestatic index, 3)) (h : mx_ a b f = some r) (kk : ∀ v, f v = some r → wx_ G X N ad ce μ k n p1 lv (.int (iI v) :: st)) : wx_ G X N ad ce μ k n pc lv (.int (iI b) :: .int (iI a) :: st) := by
  obtain ⟨p, l, e, R, s, m, args, below, meth, c, Q, A, nL⟩ := X
  intro H locs ls hP hD hS hl
  subst hp
  obtain ⟨⟨ha, hb⟩, h⟩ := ck_e h
  have hR' : R = rm := C.2.2.2.2.2.2.2.2.2.1
  refine va_mmax C.1 C.2.1 (C.2.2.2.2.2.2.1.trans hl.1.symm) C.2.2.2.1 (C.2.2.1 _ hw.1) (C.2.2.1 _ hw.2.1) (C.2.2.1 _ hw.2.2.1) (C.2.2.1 _ hw.2.2.2) (by rw [hR']; exact hR.1) (by rw [hR']; exact hR.2) (by rw [hR']; exact hf.1) (by rw [hR']; exact hf.2) d ?_
  have hk := kk _ h H locs ls hP hD hS hl
  by_cases hc : a < b
  · rw [if_pos hc] at hk
    rw [show (if iI a < iI b then iI b else iI a) = iI b from if_pos ((iI_lt ha hb).mpr hc)]
    exact hk
  · rw [if_neg hc] at hk
    rw [show (if iI a < iI b then iI b else iI a) = iI a from if_neg (fun q => hc ((iI_lt ha hb).mp q))]
    exact hk
theorem xx_ddiv (C : cx_ G X cc own rm ret nl) (p1 : Nat) (hp : pc + 1 = p1) {x y : UInt64} {f : UInt64 → Option α} (d : decode cc pc = .ok (.ddiv, 1)) (h : dd_ x y f = some r) (kk : ∀ v, f v = some r → wx_ G X N ad ce μ k n p1 lv (.double v :: st)) : wx_ G X N ad ce μ k n pc lv (.double y :: .double x :: st) := by
  obtain ⟨p, l, e, R, s, m, args, below, meth, c, Q, A, nL⟩ := X
  intro H locs ls hP hD hS hl
  subst hp
  obtain ⟨hn, h⟩ := ck_e h
  exact lv_ddiv C.1 C.2.1 d hn (kk _ h H locs ls hP hD hS hl)
theorem xx_fdiv (C : cx_ G X cc own rm ret nl) (p1 : Nat) (hp : pc + 1 = p1) {x y : UInt32} {f : UInt32 → Option α} (d : decode cc pc = .ok (.fdiv, 1)) (h : fd_ x y f = some r) (kk : ∀ v, f v = some r → wx_ G X N ad ce μ k n p1 lv (.float v :: st)) : wx_ G X N ad ce μ k n pc lv (.float y :: .float x :: st) := by
  obtain ⟨p, l, e, R, s, m, args, below, meth, c, Q, A, nL⟩ := X
  intro H locs ls hP hD hS hl
  subst hp
  obtain ⟨hn, h⟩ := ck_e h
  exact lv_fdiv C.1 C.2.1 d hn (kk _ h H locs ls hP hD hS hl)
end XR
def qd_ (G : gp_) (N : Nat) (ad : Nat → Nat) (ce : Nat → (Int → Int) → va_E) (A : Nat → Prop) (a : UInt64) (μ : mu_T) : Array Value → State → Outcome → State → Prop := va_Qd (fun (r : UInt64) (_ : Unit) => r = a) (fun _ t => po_ G N ad ce A μ t) A
def md_ (y : MethodName) (cc : ByteArray) (maxL : Nat) (ret : Option FieldType) (rm : Room) (G : gp_) (N : Nat) (ad : Nat → Nat) (ce : Nat → (Int → Int) → va_E) (av : List Value) (μ : mu_T) (a : UInt64) (μ1 : mu_T) : Prop := ∀ (l : Launch) (sz : Nat), Met l y (Cond.code y cc maxL ret :: gT_) rm (va_Pc av (pr_ G N ad ce μ sz)) (qd_ G N ad ce (va_A (wl_ N ad ce μ) sz) a μ1) rm.cells rm.slots (va_A (wl_ N ad ce μ) sz)
def ed_ (G : gp_) (X : ct_) (N : Nat) (ad : Nat → Nat) (ce : Nat → (Int → Int) → va_E) (a : UInt64) (μ : mu_T) (rm : Room) : Prop := match X with
  | (_, _, _, _, s, _, args, below, _, _, Q, A, _) => Q = MQ below (qd_ G N ad ce A a μ) args s rm.cells rm.slots A
def qf_ (G : gp_) (N : Nat) (ad : Nat → Nat) (ce : Nat → (Int → Int) → va_E) (A : Nat → Prop) (a : UInt32) (μ : mu_T) : Array Value → State → Outcome → State → Prop := va_Qf (fun (r : UInt32) (_ : Unit) => r = a) (fun _ t => po_ G N ad ce A μ t) A
def mf_ (y : MethodName) (cc : ByteArray) (maxL : Nat) (ret : Option FieldType) (rm : Room) (G : gp_) (N : Nat) (ad : Nat → Nat) (ce : Nat → (Int → Int) → va_E) (av : List Value) (μ : mu_T) (a : UInt32) (μ1 : mu_T) : Prop := ∀ (l : Launch) (sz : Nat), Met l y (Cond.code y cc maxL ret :: gT_) rm (va_Pc av (pr_ G N ad ce μ sz)) (qf_ G N ad ce (va_A (wl_ N ad ce μ) sz) a μ1) rm.cells rm.slots (va_A (wl_ N ad ce μ) sz)
def ef_ (G : gp_) (X : ct_) (N : Nat) (ad : Nat → Nat) (ce : Nat → (Int → Int) → va_E) (a : UInt32) (μ : mu_T) (rm : Room) : Prop := match X with
  | (_, _, _, _, s, _, args, below, _, _, Q, A, _) => Q = MQ below (qf_ G N ad ce A a μ) args s rm.cells rm.slots A
section MIN
variable {y : MethodName} {cc : ByteArray} {maxL : Nat} {ret : Option FieldType} {rm : Room} {G : gp_} {N : Nat} {ad : Nat → Nat} {ce : Nat → (Int → Int) → va_E} {av : List Value} {μ μ' : mu_T} {a : UInt64} {own : String} {lv : List (Nat × Value)}
theorem md_in (hy : plainName y.cls = true) (hown : y.cls = own) (hlv : lv_args 0 av = lv) (hn : (lg_sl av).length ≤ maxL) (body : ∀ X : ct_, cx_ G X cc own rm ret maxL → ed_ G X N ad ce a μ' rm → wx_ G X N ad ce μ 0 0 0 lv [])   : md_ y cc maxL ret rm G N ad ce av μ a μ' := by
  intro l sz
  refine Met.ofW (cc := cc) (maxL := maxL) (ret := ret) hy rfl ?_
  intro p e s m args below meth c s₁ B hml hv
  obtain ⟨rfl, hsz, hP, hK, hD0, hbs, hg⟩ := hv
  subst hsz
  have hts := atoms_spec (ws := Cond.code y cc maxL ret :: gT_) B.pre
  have hfc : s.vm.findClass y.cls = some m.cls := findClass_of_methodNamed B.named
  rw [lg_entry_eq]
  have hl := lv_entry av hn
  rw [hlv] at hl
  have hAb : ∀ q, va_A (wl_ N ad ce μ) s.heap.size q → G.2.2 ≤ q := fun q h => by
    rcases h with ⟨k, e, h⟩ | h
    · exact hD0.2 k _ h
    · exact Nat.le_trans hbs h
  exact body (p, l, e, (headSpec (Cond.code y cc maxL ret :: gT_) rm).room, s, m, av.toArray, below, meth, c, _, va_A (wl_ N ad ce μ) s.heap.size, maxL)
    ⟨B.exec, B.bytes, fun w hw => hts w (List.mem_cons_of_mem _ hw), hown ▸ hfc, hK, fun q h => Or.inr h, hml, B.notSynchronized, hAb, rfl, B.returns, hg, rfl⟩ rfl s.heap [] _ hP (hD0.self (sz := s.heap.size)) va_S.rf hl
end MIN
section MIN
variable {y : MethodName} {cc : ByteArray} {maxL : Nat} {ret : Option FieldType} {rm : Room} {G : gp_} {N : Nat} {ad : Nat → Nat} {ce : Nat → (Int → Int) → va_E} {av : List Value} {μ μ' : mu_T} {a : UInt32} {own : String} {lv : List (Nat × Value)}
theorem mf_in (hy : plainName y.cls = true) (hown : y.cls = own) (hlv : lv_args 0 av = lv) (hn : (lg_sl av).length ≤ maxL) (body : ∀ X : ct_, cx_ G X cc own rm ret maxL → ef_ G X N ad ce a μ' rm → wx_ G X N ad ce μ 0 0 0 lv [])   : mf_ y cc maxL ret rm G N ad ce av μ a μ' := by
  intro l sz
  refine Met.ofW (cc := cc) (maxL := maxL) (ret := ret) hy rfl ?_
  intro p e s m args below meth c s₁ B hml hv
  obtain ⟨rfl, hsz, hP, hK, hD0, hbs, hg⟩ := hv
  subst hsz
  have hts := atoms_spec (ws := Cond.code y cc maxL ret :: gT_) B.pre
  have hfc : s.vm.findClass y.cls = some m.cls := findClass_of_methodNamed B.named
  rw [lg_entry_eq]
  have hl := lv_entry av hn
  rw [hlv] at hl
  have hAb : ∀ q, va_A (wl_ N ad ce μ) s.heap.size q → G.2.2 ≤ q := fun q h => by
    rcases h with ⟨k, e, h⟩ | h
    · exact hD0.2 k _ h
    · exact Nat.le_trans hbs h
  exact body (p, l, e, (headSpec (Cond.code y cc maxL ret :: gT_) rm).room, s, m, av.toArray, below, meth, c, _, va_A (wl_ N ad ce μ) s.heap.size, maxL)
    ⟨B.exec, B.bytes, fun w hw => hts w (List.mem_cons_of_mem _ hw), hown ▸ hfc, hK, fun q h => Or.inr h, hml, B.notSynchronized, hAb, rfl, B.returns, hg, rfl⟩ rfl s.heap [] _ hP (hD0.self (sz := s.heap.size)) va_S.rf hl
end MIN
section XR
variable {G : gp_} {X : ct_} {N : Nat} {ad : Nat → Nat} {ce : Nat → (Int → Int) → va_E} {μ : mu_T} {k n pc : Nat} {lv lv1 : List (Nat × Value)} {st stk : List Value} {cc : ByteArray} {own : String} {rm : Room} {ret : Option FieldType} {nl : Nat} {α : Type} {r : α}
theorem xx_dret (C : cx_ G X cc own rm ret nl) {e0 a : UInt64} (E : ed_ G X N ad ce a μ rm) (hr : ret = some .double) (hk : k ≤ rm.cells ∧ n ≤ rm.slots) (d : decode cc pc = .ok (.dreturn, 1)) (h : some e0 = some a) : wx_ G X N ad ce μ k n pc lv [.double e0] := by
  obtain ⟨p, l, e, R, s, m, args, below, meth, c, Q, A, nL⟩ := X
  intro H locs ls hP hD hS hl
  obtain rfl := Option.some.inj h
  obtain ⟨hx, hb, -, -, hK, -, -, hlocks, -, -, hrt, -, -⟩ := C
  subst hr
  rw [show Q = _ from E]
  refine W.widen hk.1 hk.2 ?_
  exact W.dret hx hb hrt (fun t ht hW => ⟨⟨_, (), rfl, rfl, by rw [ht]; exact hP, va_K.moved hW.alike hK, hD⟩, hS.F ht⟩) hS.2.2 d hlocks
theorem xx_fret (C : cx_ G X cc own rm ret nl) {e0 a : UInt32} (E : ef_ G X N ad ce a μ rm) (hr : ret = some .float) (hk : k ≤ rm.cells ∧ n ≤ rm.slots) (d : decode cc pc = .ok (.freturn, 1)) (h : some e0 = some a) : wx_ G X N ad ce μ k n pc lv [.float e0] := by
  obtain ⟨p, l, e, R, s, m, args, below, meth, c, Q, A, nL⟩ := X
  intro H locs ls hP hD hS hl
  obtain rfl := Option.some.inj h
  obtain ⟨hx, hb, -, -, hK, -, -, hlocks, -, -, hrt, -, -⟩ := C
  subst hr
  rw [show Q = _ from E]
  refine W.widen hk.1 hk.2 ?_
  exact W.fret hx hb hrt (fun t ht hW => ⟨⟨_, (), rfl, rfl, by rw [ht]; exact hP, va_K.moved hW.alike hK, hD⟩, hS.F ht⟩) hS.2.2 d hlocks
theorem xx_dretm (C : cx_ G X cc own rm ret nl) {e0 a : UInt64} {μ2 : mu_T} (E : ed_ G X N ad ce a μ2 rm) (hr : ret = some .double) (hk : k ≤ rm.cells ∧ n ≤ rm.slots) (d : decode cc pc = .ok (.dreturn, 1)) (h : some (e0, μ) = some (a, μ2)) : wx_ G X N ad ce μ k n pc lv [.double e0] := by
  obtain ⟨p, l, e, R, s, m, args, below, meth, c, Q, A, nL⟩ := X
  intro H locs ls hP hD hS hl
  obtain ⟨rfl, rfl⟩ := Prod.mk.inj (Option.some.inj h)
  obtain ⟨hx, hb, -, -, hK, -, -, hlocks, -, -, hrt, -, -⟩ := C
  subst hr
  rw [show Q = _ from E]
  refine W.widen hk.1 hk.2 ?_
  exact W.dret hx hb hrt (fun t ht hW => ⟨⟨_, (), rfl, rfl, by rw [ht]; exact hP, va_K.moved hW.alike hK, hD⟩, hS.F ht⟩) hS.2.2 d hlocks
theorem xx_fretm (C : cx_ G X cc own rm ret nl) {e0 a : UInt32} {μ2 : mu_T} (E : ef_ G X N ad ce a μ2 rm) (hr : ret = some .float) (hk : k ≤ rm.cells ∧ n ≤ rm.slots) (d : decode cc pc = .ok (.freturn, 1)) (h : some (e0, μ) = some (a, μ2)) : wx_ G X N ad ce μ k n pc lv [.float e0] := by
  obtain ⟨p, l, e, R, s, m, args, below, meth, c, Q, A, nL⟩ := X
  intro H locs ls hP hD hS hl
  obtain ⟨rfl, rfl⟩ := Prod.mk.inj (Option.some.inj h)
  obtain ⟨hx, hb, -, -, hK, -, -, hlocks, -, -, hrt, -, -⟩ := C
  subst hr
  rw [show Q = _ from E]
  refine W.widen hk.1 hk.2 ?_
  exact W.fret hx hb hrt (fun t ht hW => ⟨⟨_, (), rfl, rfl, by rw [ht]; exact hP, va_K.moved hW.alike hK, hD⟩, hS.F ht⟩) hS.2.2 d hlocks
theorem nar_c {e : Int} (h : 0 ≤ e ∧ e < 65536) : narrow .char (.int (iI e)) = .int (iI e) := by
  have e1 : iI e = nI e.toNat := by rw [show nI e.toNat = iI ((e.toNat : Nat) : Int) from iI_nat _, show ((e.toNat : Nat) : Int) = e by omega]
  rw [e1]
  exact (pk_charN (by omega)).1
theorem xx_cretp (C : cx_ G X cc own rm ret nl) {e0 a : Int} (E : ei_ G X N ad ce a μ rm) (hr : ret = some .char) (hk : k ≤ rm.cells ∧ n ≤ rm.slots) (d : decode cc pc = .ok (.ireturn, 1)) (h : rc_ e0 = some a) : wx_ G X N ad ce μ k n pc lv [.int (iI e0)] := by
  obtain ⟨hz, h⟩ := ck_e h
  exact xx_zret C E hr (nar_c hz) hk d (by rw [Option.some.inj h])
theorem xx_cNip (C : cx_ G X cc own rm ret nl) (p1 : Nat) (hp : pc + 3 = p1) {F : Option Int} {f : Int → Option α} {y : MethodName} {bytes : ByteArray} {maxL nA index : Nat} {ret2 : Option FieldType} {rm2 : Room} {As : List Value} (hca : ca_ y bytes maxL ret2 nA) (hcs : Cond.static y ∈ gT_) (i9 : Nat) (m1 : nwl_[i9]? = some (own, index, y)) (hn : As.length = nA) (hR : rm2.frames + 1 ≤ rm.frames ∧ 8 + (maxL + 11) + rm2.locals ≤ rm.locals) (hf : k + rm2.cells ≤ rm.cells ∧ n + rm2.slots ≤ rm.slots) (hW : (st.map fun v => v.category).sum ≤ 8) (d : decode cc pc = .ok (.invokestatic index, 3)) (hM : ∀ a, F = some a → mi_ y bytes maxL ret2 rm2 G N ad ce As μ a μ) (h : bd_ F f = some r) (kk : ∀ a, f a = some r → wx_ G X N ad ce μ (k + rm2.cells) (n + rm2.slots) p1 lv (.int (iI a) :: st)) (hst : stk = As.reverse ++ st) : wx_ G X N ad ce μ k n pc lv stk := by
  obtain ⟨p, l, e, R, s, m, args, below, meth, c, Q, A, nL⟩ := X
  intro H locs ls hP hD hS hl
  subst hp
  have hts := C.2.2.1
  have hK := C.2.2.2.2.1
  have hA := C.2.2.2.2.2.1
  have hAb := C.2.2.2.2.2.2.2.2.1
  have hR' : R = rm := C.2.2.2.2.2.2.2.2.2.1
  have hg := C.2.2.2.2.2.2.2.2.2.2.2.1
  subst hR'
  have hsz : G.2.2 ≤ H.size := by
    have h1 := hAb s.heap.size (hA _ (Nat.le_refl _))
    exact Nat.le_trans h1 hS.1
  have hDb : va_D (fun q => G.2.2 ≤ q) (wl_ N ad ce μ) := hD.weaken (fun _ q _ h => hAb q.1 h)
  have hgH : gk_ G s H := gk_kept hg (fun a h1 h2 => hS.2.1 a h1 (fun q => h2 (hAb a q)))
  have hF : ∀ q, va_A (wl_ N ad ce μ) H.size q → A q := fun q h => by
    rcases h with ⟨j, e9, h⟩ | h
    · exact hD.2 j _ h
    · exact hA q (Nat.le_trans hS.1 h)
  have hpre : ∀ U : State, U.heap = H → s.WarmedH U.vm → pr_ G N ad ce μ H.size U := fun U hU hW9 => ⟨by rw [hU], by rw [hU]; exact hP, va_K.moved hW9.alike hK, hDb, hsz, by rw [hU]; exact gk_warm hW9 hgH⟩
  subst hst
  obtain ⟨a9, e9, h⟩ := bd_e h
  have hM9 := hM a9 e9 l H.size
  have hnw : va_Nw (.methodLinkNest own index y "UrnHeap") s := hg.2.2.2.2.1 _ (List.mem_of_getElem? m1)
  have hpreV : ∀ U : State, U.heap = H → s.WarmedH U.vm → va_Pc As (pr_ G N ad ce μ H.size) (As).toArray U := fun U hU hW9 => ⟨rfl, hpre U hU hW9⟩
  refine va_calli (va_runSN (host := "UrnHeap") (rest := st) ⟨C.1, C.2.1, C.2.2.2.2.2.2.1, C.2.2.2.1, hts⟩ hM9 ⟨va_cnB nA hts (gT_in hca.2.1) rfl rfl rfl hnw (hts _ hca.1) hca.2.2 hR, hts _ hcs, trivial⟩ ⟨(fun a U g mk q => by obtain ⟨q0, q1, qP, qK, qD, q2, q3⟩ := q; exact ⟨q0, q1, qP, va_K.moved (u := U) (U := U.calling g mk a) (Vm.Alike.refl U.vm) qK, qD, q2, gk_same (u := U) (U := U.calling g mk a) rfl q3⟩), hpreV⟩ rfl hn hl.1 rfl (lv_room hW) d hf) hS (fun q _ h => hF q h) hF (fun r9 u t H1 locs1 ht hvm hw hB hz1 hk1 hS1 => ?_)
  obtain ⟨hP1, hK1, hD1⟩ := hB
  rw [ht] at hP1
  rw [hw]
  exact kk a9 h H1 locs1 ls hP1 (hD1.weaken (fun _ q _ h => hF q.1 h)) hS1 hl
end XR
