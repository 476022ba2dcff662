/-! base: numbers, the memory, the bundle of a walk -/
abbrev mu_T : Type := Nat → Int → Int
def iI (x : Int) : Int32 := Int32.ofInt x
abbrev rg_ (x : Int) : Prop := -2147483648 ≤ x ∧ x ≤ 2147483647
theorem iI_add (a b : Int) : iI a + iI b = iI (a + b) := (Int32.ofInt_add a b).symm
theorem iI_sub (a b : Int) : iI a - iI b = iI (a - b) := (Int32.ofInt_sub a b).symm
theorem iI_mul (a b : Int) : iI a * iI b = iI (a * b) := (Int32.ofInt_mul a b).symm
theorem iI_neg (a : Int) : -iI a = iI (-a) := (Int32.ofInt_neg a).symm
theorem iI_toInt {a : Int} (h : rg_ a) : (iI a).toInt = a := Int32.toInt_ofInt_of_le (by omega) (by omega)
theorem iI_clamp {a : Int} (h : rg_ a) : (iI a).toNatClampNeg = a.toNat := Int32.toNatClampNeg_ofInt_of_le (by omega) (by omega)
theorem iI_lt {a b : Int} (ha : rg_ a) (hb : rg_ b) : iI a < iI b ↔ a < b := by rw [Int32.lt_iff_toInt_lt, iI_toInt ha, iI_toInt hb]
theorem iI_le {a b : Int} (ha : rg_ a) (hb : rg_ b) : iI a ≤ iI b ↔ a ≤ b := by rw [Int32.le_iff_toInt_le, iI_toInt ha, iI_toInt hb]
theorem iI_eq {a b : Int} (ha : rg_ a) (hb : rg_ b) : iI a = iI b ↔ a = b := by rw [← Int32.toInt_inj, iI_toInt ha, iI_toInt hb]
theorem iI_of (x : Int32) : iI x.toInt = x := Int32.ofInt_toInt x
theorem iI_rg (x : Int32) : rg_ x.toInt := ⟨Int32.le_toInt x, by have := Int32.toInt_lt x; omega⟩
theorem iI_in {i : Int} {n : Nat} (h0 : 0 ≤ i) (h1 : i < n) (hn : n < 2147483648) : vp_in (iI i) n := by
  rw [vp_in_iff, iI_toInt (by omega)]
  exact ⟨h0, h1⟩
theorem iI_nat (n : Nat) : Int32.ofNat n = iI n := rfl
-- the memory: a row of numbers for each object or array
def ur_ (f : Int → Int) (i v : Int) : Int → Int := fun j => if j = i then v else f j
def um_ (μ : mu_T) (k : Nat) (f : Int → Int) : mu_T := fun q => if q = k then f else μ q
def st_ (μ : mu_T) (k : Nat) (i v : Int) : mu_T := um_ μ k (ur_ (μ k) i v)
theorem um_self (μ : mu_T) (k : Nat) (f : Int → Int) : um_ μ k f k = f := if_pos rfl
theorem um_ne {μ : mu_T} {k q : Nat} {f : Int → Int} (h : q ≠ k) : um_ μ k f q = μ q := if_neg h
-- the words of a decompiled method
def lt_ {α : Type} (a b : Int) (t f : Option α) : Option α := if rg_ a ∧ rg_ b then (if a < b then t else f) else none
def eq_ {α : Type} (a b : Int) (t f : Option α) : Option α := if a = b then t else if rg_ a ∧ rg_ b then f else none
def rd_ {α : Type} (μ : mu_T) (k n : Nat) (i : Int) (f : Int → Option α) : Option α := if 0 ≤ i ∧ i < n then f (μ k i) else none
def wr_ {α : Type} (μ : mu_T) (k n : Nat) (i v : Int) (f : mu_T → Option α) : Option α := if 0 ≤ i ∧ i < n then f (st_ μ k i v) else none
def wf_ {α : Type} (μ : mu_T) (k : Nat) (i v : Int) (f : mu_T → Option α) : Option α := f (st_ μ k i v)
def wz_ {α : Type} (μ : mu_T) (k : Nat) (i v : Int) (f : mu_T → Option α) : Option α := if v = 0 ∨ v = 1 then f (st_ μ k i v) else none
def gd_ {α : Type} (c : Prop) [Decidable c] (x : Option α) : Option α := if c then x else none
def nm_ {α : Type} (v : Int) (f : Int → Option α) : Option α := f v
def dv_ {α : Type} (a b : Int) (f : Int → Option α) : Option α := if rg_ a ∧ rg_ b ∧ b ≠ 0 then f (a.tdiv b) else none
def rm_ {α : Type} (a b : Int) (f : Int → Option α) : Option α := if rg_ a ∧ rg_ b ∧ b ≠ 0 then f (a.tmod b) else none
def bd_ {α β : Type} (x : Option α) (f : α → Option β) : Option β := match x with
  | none => none
  | some a => f a
def bp_ {α β γ : Type} (x : Option (α × β)) (f : α → β → Option γ) : Option γ := match x with
  | none => none
  | some (a, b) => f a b
def rz_ (v : Int) (μ : mu_T) : Option (Int × mu_T) := if v = 0 ∨ v = 1 then some (v, μ) else none
def ry_ (v : Int) : Option Int := if v = 0 ∨ v = 1 then some v else none
def jn_ {φ β : Type} (f : φ) (k : φ → Option β) : Option β := k f
def an_ (a b : Int) : Int := (iI a &&& iI b).toInt
def or_ (a b : Int) : Int := (iI a ||| iI b).toInt
def xo_ (a b : Int) : Int := (iI a ^^^ iI b).toInt
def sl_ (a b : Int) : Int := (iI a <<< (iI b &&& 31)).toInt
def sr_ (a b : Int) : Int := (iI a >>> (iI b &&& 31)).toInt
def su_ (a b : Int) : Int := (((iI a).toUInt32 >>> ((iI b).toUInt32 &&& Int32.toUInt32 31)).toInt32).toInt
def i2c_ (a : Int) : Int := (((iI a).toUInt32 % 65536).toInt32).toInt
def i2b_ (a : Int) : Int := ((iI a).toInt8.toInt32).toInt
theorem iI_div {a b : Int} (ha : rg_ a) (hb : rg_ b) : iI (a.tdiv b) = iI a / iI b := by
  have h := Int32.ofInt_tdiv (a := a) (b := b) (by show Int32.minValue.toInt ≤ a; have : Int32.minValue.toInt = -2147483648 := rfl; omega) (by have : Int32.maxValue.toInt = 2147483647 := rfl; omega) (by have : Int32.minValue.toInt = -2147483648 := rfl; omega) (by have : Int32.maxValue.toInt = 2147483647 := rfl; omega)
  exact h
theorem iI_rem {a b : Int} (ha : rg_ a) (hb : rg_ b) : iI (a.tmod b) = iI a - iI a / iI b * iI b := by
  rw [← iI_div ha hb, iI_mul, iI_sub]
  congr 1
  have := Int.tmod_add_mul_tdiv a b
  have h2 : b * a.tdiv b = a.tdiv b * b := Int.mul_comm _ _
  omega
theorem lt_e {α : Type} {a b : Int} {t f : Option α} {r : α} (h : lt_ a b t f = some r) : (rg_ a ∧ rg_ b) ∧ ((a < b ∧ t = some r) ∨ (¬ a < b ∧ f = some r)) := by
  unfold lt_ at h
  split at h
  next hr =>
    refine ⟨hr, ?_⟩
    split at h
    next hc => exact Or.inl ⟨hc, h⟩
    next hc => exact Or.inr ⟨hc, h⟩
  next => cases h
theorem eq_e {α : Type} {a b : Int} {t f : Option α} {r : α} (h : eq_ a b t f = some r) : (a = b ∧ t = some r) ∨ ((iI a ≠ iI b) ∧ a ≠ b ∧ f = some r) := by
  unfold eq_ at h
  split at h
  next hc => exact Or.inl ⟨hc, h⟩
  next hc =>
    split at h
    next hr => exact Or.inr ⟨fun q => hc ((iI_eq hr.1 hr.2).mp q), hc, h⟩
    next => cases h
theorem ck_e {α : Type} {c : Prop} [Decidable c] {x : Option α} {r : α} (h : (if c then x else none) = some r) : c ∧ x = some r := by
  split at h
  next hc => exact ⟨hc, h⟩
  next => cases h
theorem bd_e {α β : Type} {x : Option α} {f : α → Option β} {r : β} (h : bd_ x f = some r) : ∃ a, x = some a ∧ f a = some r := by
  unfold bd_ at h
  split at h
  next => cases h
  next a => exact ⟨a, rfl, h⟩
theorem bp_e {α β γ : Type} {x : Option (α × β)} {f : α → β → Option γ} {r : γ} (h : bp_ x f = some r) : ∃ a b, x = some (a, b) ∧ f a b = some r := by
  unfold bp_ at h
  split at h
  next => cases h
  next a b => exact ⟨a, b, rfl, h⟩
-- the world: N cells, cell k at the address ad k, made of the row μ k
def wl_ (N : Nat) (ad : Nat → Nat) (ce : Nat → (Int → Int) → va_E) (μ : mu_T) : va_W := (List.range N).map (fun k => (ad k, ce k (μ k)))
theorem wl_get {N : Nat} {ad : Nat → Nat} {ce : Nat → (Int → Int) → va_E} {μ : mu_T} {k : Nat} (h : k < N) : (wl_ N ad ce μ)[k]? = some (ad k, ce k (μ k)) := by
  unfold wl_
  rw [List.getElem?_map, List.getElem?_range h]
  rfl
theorem wl_set {N : Nat} {ad : Nat → Nat} {ce : Nat → (Int → Int) → va_E} {μ : mu_T} {k : Nat} (f : Int → Int) : (wl_ N ad ce μ).set k (ad k, ce k f) = wl_ N ad ce (um_ μ k f) := by
  apply List.ext_getElem?
  intro i
  by_cases hi : i < N
  · rw [wl_get hi]
    by_cases hik : i = k
    · subst hik
      rw [List.getElem?_set_self (by unfold wl_; simpa using hi), um_self]
    · rw [List.getElem?_set_ne (Ne.symm hik), wl_get hi, um_ne hik]
  · rw [List.getElem?_eq_none (by unfold wl_; simp; omega), List.getElem?_eq_none (by unfold wl_; simp; omega)]
