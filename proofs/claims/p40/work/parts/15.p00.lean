/-! the pure stage: stepping the decompiled functions -/
theorem bd_some {α β : Type} (a : α) (f : α → Option β) : bd_ (some a) f = f a := rfl
theorem bp_some {α β γ : Type} (a : α) (b : β) (f : α → β → Option γ) : bp_ (some (a, b)) f = f a b := rfl
theorem jn_e {φ β : Type} (f : φ) (k : φ → Option β) : jn_ f k = k f := rfl
theorem nm_q {α : Type} (v : Int) (f : Int → Option α) : nm_ v f = f v := rfl
theorem wf_e {α : Type} (μ : mu_T) (k : Nat) (i v : Int) (f : mu_T → Option α) : wf_ μ k i v f = f (st_ μ k i v) := rfl
theorem rd_e {α : Type} {μ : mu_T} {k n : Nat} {i : Int} {f : Int → Option α} (h0 : 0 ≤ i) (h1 : i < n) : rd_ μ k n i f = f (μ k i) := if_pos ⟨h0, h1⟩
theorem wr_e {α : Type} {μ : mu_T} {k n : Nat} {i v : Int} {f : mu_T → Option α} (h0 : 0 ≤ i) (h1 : i < n) : wr_ μ k n i v f = f (st_ μ k i v) := if_pos ⟨h0, h1⟩
theorem gd_e {α : Type} {c : Prop} [Decidable c] {x : Option α} (h : c) : gd_ c x = x := if_pos h
theorem lt_if {α : Type} {a b : Int} {t f : Option α} (ha : rg_ a) (hb : rg_ b) : lt_ a b t f = if a < b then t else f := if_pos ⟨ha, hb⟩
theorem lt_y {α : Type} {a b : Int} {t f : Option α} (ha : rg_ a) (hb : rg_ b) (h : a < b) : lt_ a b t f = t := by rw [lt_if ha hb, if_pos h]
theorem lt_n {α : Type} {a b : Int} {t f : Option α} (ha : rg_ a) (hb : rg_ b) (h : ¬ a < b) : lt_ a b t f = f := by rw [lt_if ha hb, if_neg h]
theorem eq_if {α : Type} {a b : Int} {t f : Option α} (ha : rg_ a) (hb : rg_ b) : eq_ a b t f = if a = b then t else f := by
  unfold eq_
  by_cases h : a = b
  · rw [if_pos h, if_pos h]
  · rw [if_neg h, if_neg h, if_pos ⟨ha, hb⟩]
theorem eq_y {α : Type} {a b : Int} {t f : Option α} (h : a = b) : eq_ a b t f = t := if_pos h
theorem eq_n {α : Type} {a b : Int} {t f : Option α} (ha : rg_ a) (hb : rg_ b) (h : a ≠ b) : eq_ a b t f = f := by rw [eq_if ha hb, if_neg h]
/-- a truth as a number -/
def tr_ (p : Prop) [Decidable p] : Int := if p then 1 else 0
theorem tr_y {p : Prop} [Decidable p] (h : p) : tr_ p = 1 := if_pos h
theorem tr_n {p : Prop} [Decidable p] (h : ¬ p) : tr_ p = 0 := if_neg h
theorem tr_0 {α : Type} {p : Prop} [Decidable p] {t f : Option α} : eq_ (tr_ p) 0 t f = if p then f else t := by
  by_cases h : p
  · rw [tr_y h, if_pos h]
    exact eq_n (by decide) (by decide) (by decide)
  · rw [tr_n h, if_neg h]
    exact eq_y rfl
theorem st_s {μ : mu_T} {k : Nat} {i v j : Int} : st_ μ k i v k j = if j = i then v else μ k j := by
  unfold st_
  rw [um_self]
  rfl
theorem st_n {μ : mu_T} {k q : Nat} {i v : Int} (h : q ≠ k) : st_ μ k i v q = μ q := um_ne h
-- counting
def cn_ (p : Int → Bool) : Nat → Int
  | 0 => 0
  | n + 1 => cn_ p n + (if p n then 1 else 0)
theorem cn_0 (p : Int → Bool) : ∀ n : Nat, 0 ≤ cn_ p n
  | 0 => Int.le_refl _
  | n + 1 => by
    have h := cn_0 p n
    unfold cn_
    split <;> omega
theorem cn_le (p : Int → Bool) : ∀ n : Nat, cn_ p n ≤ n
  | 0 => Int.le_refl _
  | n + 1 => by
    have h := cn_le p n
    unfold cn_
    split <;> omega
theorem cn_eq {p q : Int → Bool} : ∀ n : Nat, (∀ c : Int, 0 ≤ c → c < n → p c = q c) → cn_ p n = cn_ q n
  | 0, _ => rfl
  | n + 1, h => by
    unfold cn_
    rw [cn_eq n (fun c h0 h1 => h c h0 (by omega)), h n (by omega) (by omega)]
/-- one place changed -/
theorem cn_up {p q : Int → Bool} {i : Int} (hi : 0 ≤ i) : ∀ n : Nat, (∀ c : Int, 0 ≤ c → c < n → c ≠ i → q c = p c) → cn_ q n = cn_ p n + (if i < n then (if q i then 1 else 0) - (if p i then 1 else 0) else 0)
  | 0, _ => by
    rw [if_neg (by omega)]
    rfl
  | n + 1, h => by
    unfold cn_
    rw [cn_up hi n (fun c h0 h1 h2 => h c h0 (by omega) h2)]
    by_cases hn : i = n
    · subst hn
      rw [if_neg (show ¬ ((n : Nat) : Int) < (n : Nat) by omega), if_pos (show ((n : Nat) : Int) < (n + 1 : Nat) by omega)]
      omega
    · rw [h n (by omega) (by omega) (Ne.symm hn)]
      by_cases hl : i < n
      · rw [if_pos hl, if_pos (show i < ((n + 1 : Nat) : Int) by omega)]
        omega
      · rw [if_neg hl, if_neg (show ¬ i < ((n + 1 : Nat) : Int) by omega)]
        omega
theorem cn_lt {p : Int → Bool} {i : Int} (hi : 0 ≤ i) : ∀ n : Nat, i < n → p i = false → cn_ p n < n
  | 0, h, _ => by omega
  | n + 1, h, hp => by
    unfold cn_
    by_cases hn : i = n
    · subst hn
      rw [hp]
      have := cn_le p n
      rw [if_neg (by decide)]
      omega
    · have := cn_lt hi n (by omega) hp
      split <;> omega
-- the state: a row s of 293 numbers as the reference has them, and the program's heap
/-- what may be held: nothing, or an urn -/
def ft_ (s : Int → Int) (x : Int) : Prop := x = -15 ∨ (0 ≤ x ∧ x < 24 ∧ s (17 + x) = 1)
/-- what is held for good is not white while urns are marked, and not to be swept -/
def sf_ (s : Int → Int) (x : Int) : Prop := (s 0 = 1 → s (41 + x) ≠ 0) ∧ (s 0 = 2 → ¬ (s (41 + x) = 0 ∧ s 1 ≤ x))
def iv_T (s : Int → Int) : Prop := ∀ c, 0 ≤ c → c < 24 → (s (17 + c) = 0 ∨ s (17 + c) = 1) ∧ (0 ≤ s (41 + c) ∧ s (41 + c) ≤ 2) ∧ (0 ≤ s (65 + c) ∧ s (65 + c) ≤ 2) ∧ (s (17 + c) = 0 → s (41 + c) = 0 ∧ s (65 + c) = 0)
def iv_P (s : Int → Int) : Prop := (0 ≤ s 0 ∧ s 0 ≤ 2) ∧ (0 ≤ s 1 ∧ s 1 < 24) ∧ (s 0 ≠ 2 → s 1 = 0)
def iv_H (s : Int → Int) : Prop := ∀ k, 0 ≤ k → k < 96 → ft_ s (s (137 + k))
def iv_W (s : Int → Int) : Prop := ∀ c, 0 ≤ c → c < 24 → ft_ s (s (113 + c)) ∧ (s 0 = 2 → s (113 + c) ≠ -15 → ¬ (s (41 + s (113 + c)) = 0 ∧ s 1 ≤ s (113 + c)))
def iv_M (s : Int → Int) : Prop := ∀ k, 0 ≤ k → k < 6 → ft_ s (s (11 + k)) ∧ (s (11 + k) ≠ -15 → sf_ s (s (11 + k)))
def iv_D (s : Int → Int) : Prop := (0 ≤ s 9 ∧ s 9 = cn_ (fun c => decide (s (65 + c) = 2)) 24) ∧ (∀ k, 0 ≤ k → k < s 9 → (0 ≤ s (257 + k) ∧ s (257 + k) < 24) ∧ s (65 + s (257 + k)) = 2 ∧ sf_ s (s (257 + k))) ∧ (∀ j k, 0 ≤ j → j < k → k < s 9 → s (257 + j) ≠ s (257 + k)) ∧ (∀ c, 0 ≤ c → c < 24 → s (65 + c) = 2 → ∃ k, 0 ≤ k ∧ k < s 9 ∧ s (257 + k) = c)
def iv_G (s : Int → Int) : Prop := (0 ≤ s 8 ∧ s 8 = cn_ (fun c => decide (s (41 + c) = 1)) 24) ∧ (∀ k, 0 ≤ k → k < s 8 → (0 ≤ s (233 + k) ∧ s (233 + k) < 24) ∧ s (41 + s (233 + k)) = 1) ∧ (∀ j k, 0 ≤ j → j < k → k < s 8 → s (233 + j) ≠ s (233 + k)) ∧ (s 0 ≠ 1 → s 8 = 0)
def iv_L (s : Int → Int) : Prop := 0 ≤ s 4 ∧ (s 4 ≤ 12 → s 10 = s 4) ∧ (12 ≤ s 4 → s 10 = 12)
def iv_C (t : Int) (s : Int → Int) : Prop := s 3 = cn_ (fun c => decide (s (17 + c) = 1)) 24 + s 4 ∧ s 3 ≤ t
def iv_ (t : Int) (s : Int → Int) : Prop := iv_T s ∧ iv_P s ∧ iv_H s ∧ iv_W s ∧ iv_M s ∧ iv_D s ∧ iv_G s ∧ iv_L s ∧ iv_C t s
/-- the program's heap h tells what the row s tells -/
def hr_ (h : Nat → Int → Int) (s : Int → Int) : Prop := (∀ k, 0 ≤ k → k < 96 → h 1 k = s (137 + k)) ∧ (∀ c, 0 ≤ c → c < 24 → h 2 c = s (113 + c)) ∧ (∀ c, 0 ≤ c → c < 24 → h 3 c = s (65 + c)) ∧ (∀ c, 0 ≤ c → c < 24 → h 4 c = if s (17 + c) = 0 then -1 else s (41 + c)) ∧ (∀ c, 0 ≤ c → c < 24 → s (17 + c) = 1 → h 5 c = s (89 + c)) ∧ (∀ k, 0 ≤ k → k < 6 → h 6 k = s (11 + k)) ∧ (∀ k, 0 ≤ k → k < s 10 → h 7 ((s 4 - 1 - k) % 12) = s (281 + k)) ∧ (h 8 1 = s 8 ∧ ∀ k, 0 ≤ k → k < s 8 → h 9 k = s (233 + k)) ∧ (h 10 1 = s 9 ∧ ∀ k, 0 ≤ k → k < s 9 → h 11 k = s (257 + k)) ∧ h 0 9 = s 0 ∧ h 0 10 = s 1 ∧ h 0 11 = s 2 ∧ h 0 12 = s 3 ∧ h 0 13 = s 4 ∧ h 0 14 = s 5 ∧ h 0 15 = s 6 ∧ h 0 16 = s 7
/-- an urn in a cell -/
abbrev ur9_ (s : Int → Int) (a : Int) : Prop := (0 ≤ a ∧ a < 24) ∧ s (17 + a) = 1
/-- an urn that is to be swept -/
abbrev dm_ (s : Int → Int) (a : Int) : Prop := s 0 = 2 ∧ s (41 + a) = 0 ∧ s 1 ≤ a
section RQ
variable {s : Int → Int} {μ ν : mu_T}
theorem e_in {a b c : Int} (ha : rg_ a) (hb : rg_ b) (hc : rg_ c) : f_X12_in ν a b c = some (tr_ (b ≤ a ∧ a ≤ c)) := by
  unfold f_X12_in
  rw [lt_if ha hb, lt_if hc ha]
  by_cases h1 : a < b
  · rw [if_pos h1, tr_n (by omega)]
  · rw [if_neg h1]
    by_cases h2 : c < a
    · rw [if_pos h2, tr_n (by omega)]
    · rw [if_neg h2, tr_y (by omega)]
theorem e_isUrn (hT : iv_T (ν 1)) {a : Int} (ha : rg_ a) : f_X12_isUrn ν a = some (tr_ (ur9_ (ν 1) a)) := by
  unfold f_X12_isUrn
  rw [e_in ha (by decide) (by decide), bd_some, tr_0]
  by_cases h : 0 ≤ a ∧ a ≤ 23
  · rw [if_pos h, rd_e (by omega) (by omega)]
    have h1 := (hT a h.1 (by omega)).1
    by_cases h2 : ν 1 (17 + a) = 1
    · rw [eq_y h2, tr_y ⟨⟨h.1, by omega⟩, h2⟩]
    · rw [eq_n (by omega) (by decide) h2, tr_n (fun q => h2 q.2)]
  · rw [if_neg h, tr_n (fun q => h (by omega))]
theorem e_isDoomed (hT : iv_T (ν 1)) (hP : iv_P (ν 1)) {a : Int} (h0 : 0 ≤ a) (h1 : a < 24) : f_X12_isDoomed ν a = some (tr_ (dm_ (ν 1) a)) := by
  unfold f_X12_isDoomed
  have q1 := (hT a h0 h1).2.1
  obtain ⟨q2, q3, -⟩ := hP
  rw [rd_e (by omega) (by omega)]
  by_cases h2 : ν 1 0 = 2
  · rw [eq_y h2, rd_e (by omega) (by omega)]
    by_cases h3 : ν 1 (41 + a) = 0
    · rw [eq_y h3, rd_e (by omega) (by omega)]
      by_cases h4 : a < ν 1 1
      · rw [lt_y (by omega) (by omega) h4, tr_n (fun q => by have := q.2.2; omega)]
      · rw [lt_n (by omega) (by omega) h4, tr_y ⟨h2, h3, by omega⟩]
    · rw [eq_n (by omega) (by decide) h3, tr_n (fun q => h3 q.2.1)]
  · rw [eq_n (by omega) (by decide) h2, tr_n (fun q => h2 q.1)]
theorem e_hasUrn (hT : iv_T s) (hh : ∀ c, 0 ≤ c → c < 24 → μ 4 c = if s (17 + c) = 0 then -1 else s (41 + c)) {a : Int} (ha : rg_ a) : f_X2_hasUrn μ a = some (tr_ (ur9_ s a)) := by
  unfold f_X2_hasUrn
  rw [lt_if ha (by decide), lt_if ha (by decide)]
  by_cases h1 : a < 0
  · rw [if_pos h1, tr_n (fun q => by have := q.1.1; omega)]
  · rw [if_neg h1]
    by_cases h2 : a < 24
    · rw [if_pos h2, rd_e (by omega) (by omega), hh a (by omega) h2]
      have q := hT a (by omega) h2
      by_cases h3 : s (17 + a) = 0
      · rw [if_pos h3, eq_y rfl, tr_n (fun z => by have := z.2; omega)]
      · rw [if_neg h3, eq_n (by omega) (by decide) (by omega), tr_y ⟨⟨by omega, h2⟩, by omega⟩]
    · rw [if_neg h2, tr_n (fun q => by have := q.1.2; omega)]
theorem e_isWhite (hT : iv_T s) (hh : ∀ c, 0 ≤ c → c < 24 → μ 4 c = if s (17 + c) = 0 then -1 else s (41 + c)) {a : Int} (ha : rg_ a) : f_X2_isWhite μ a = some (tr_ (ur9_ s a ∧ s (41 + a) = 0)) := by
  unfold f_X2_isWhite
  rw [lt_if ha (by decide), lt_if ha (by decide)]
  by_cases h1 : a < 0
  · rw [if_pos h1, tr_n (fun q => by have := q.1.1.1; omega)]
  · rw [if_neg h1]
    by_cases h2 : a < 24
    · rw [if_pos h2, rd_e (by omega) (by omega), hh a (by omega) h2]
      have q := hT a (by omega) h2
      by_cases h3 : s (17 + a) = 0
      · rw [if_pos h3, eq_n (by decide) (by decide) (by decide), tr_n (fun z => by have := z.1.2; omega)]
      · rw [if_neg h3]
        by_cases h4 : s (41 + a) = 0
        · rw [eq_y h4, tr_y ⟨⟨⟨by omega, h2⟩, by omega⟩, h4⟩]
        · rw [eq_n (by omega) (by decide) h4, tr_n (fun z => h4 z.2)]
    · rw [if_neg h2, tr_n (fun q => by have := q.1.1.2; omega)]
theorem e_toBeSwept (hT : iv_T s) (hP : iv_P s) (hh : ∀ c, 0 ≤ c → c < 24 → μ 4 c = if s (17 + c) = 0 then -1 else s (41 + c)) (hp : μ 0 9 = s 0) (hn : μ 0 10 = s 1) {a : Int} (ha : ur9_ s a) : f_X2_isToBeSwept μ a = some (tr_ (dm_ s a)) := by
  unfold f_X2_isToBeSwept
  obtain ⟨q2, q3, -⟩ := hP
  have ha2 := ha.1
  rw [nm_q, hp]
  by_cases h2 : s 0 = 2
  · rw [eq_y h2, e_isWhite hT hh (by omega), bd_some, tr_0]
    by_cases h3 : s (41 + a) = 0
    · rw [if_pos ⟨ha, h3⟩, nm_q, hn]
      by_cases h4 : a < s 1
      · rw [lt_y (by omega) (by omega) h4, tr_n (fun q => by have := q.2.2; omega)]
      · rw [lt_n (by omega) (by omega) h4, tr_y ⟨h2, h3, by omega⟩]
    · rw [if_neg (fun q => h3 q.2), tr_n (fun q => h3 q.2.1)]
  · rw [eq_n (by omega) (by decide) h2, tr_n (fun q => h2 q.1)]
theorem e_isCell {a : Int} (ha : rg_ a) : f_X11_isCell μ a = some (tr_ (0 ≤ a ∧ a < 24)) := by
  unfold f_X11_isCell
  rw [lt_if ha (by decide), lt_if ha (by decide)]
  by_cases h1 : a < 0
  · rw [if_pos h1, tr_n (by omega)]
  · rw [if_neg h1]
    by_cases h2 : a < 24
    · rw [if_pos h2, tr_y (by omega)]
    · rw [if_neg h2, tr_n (by omega)]
theorem e_isSlot {a : Int} (ha : rg_ a) : f_X11_isSlot μ a = some (tr_ (0 ≤ a ∧ a < 4)) := by
  unfold f_X11_isSlot
  rw [lt_if ha (by decide), lt_if ha (by decide)]
  by_cases h1 : a < 0
  · rw [if_pos h1, tr_n (by omega)]
  · rw [if_neg h1]
    by_cases h2 : a < 4
    · rw [if_pos h2, tr_y (by omega)]
    · rw [if_neg h2, tr_n (by omega)]
theorem e_isName {a : Int} (ha : rg_ a) : f_X11_isName μ a = some (tr_ (0 ≤ a ∧ a < 6)) := by
  unfold f_X11_isName
  rw [lt_if ha (by decide), lt_if ha (by decide)]
  by_cases h1 : a < 0
  · rw [if_pos h1, tr_n (by omega)]
  · rw [if_neg h1]
    by_cases h2 : a < 6
    · rw [if_pos h2, tr_y (by omega)]
    · rw [if_neg h2, tr_n (by omega)]
theorem e_target (hh : ∀ k, 0 ≤ k → k < 96 → μ 1 k = s (137 + k)) {a b : Int} (ha : rg_ a) (hb : rg_ b) : f_X2_target μ a b = some (if (0 ≤ a ∧ a < 24) ∧ 0 ≤ b ∧ b < 4 then s (137 + (a * 4 + b)) else -15) := by
  unfold f_X2_target
  rw [e_isCell ha, bd_some, tr_0, e_isSlot hb, bd_some, tr_0]
  by_cases h1 : 0 ≤ a ∧ a < 24
  · rw [if_pos h1]
    by_cases h2 : 0 ≤ b ∧ b < 4
    · rw [if_pos h2, if_pos ⟨h1, h2⟩, rd_e (by omega) (by omega), hh _ (by omega) (by omega)]
    · rw [if_neg h2, if_neg (fun q => h2 q.2)]
  · rw [if_neg h1, if_neg (fun q => h1 q.1)]
theorem e_at {a b : Int} : f_X12_at ν a b = some ((137 + (4 * a)) + b) := rfl
theorem e_done {a : Int} : f_X12_done ν a = some (0, st_ ν 0 15 a) := rfl
theorem e_refused {a b : Int} : f_X12_refused ν a b = some (a, st_ ν 0 14 b) := rfl
theorem e_refuse {a b : Int} : f_X8_refuse μ a b = some (-14, st_ (st_ μ 133 0 a) 133 1 b) := rfl
end RQ
