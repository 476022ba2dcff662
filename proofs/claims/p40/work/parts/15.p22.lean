/-! accounts, balance, means -/
theorem t16_0 {α : Type} {b0 b1 b2 b3 b4 b5 b6 b7 b8 b9 b10 b11 b12 b13 b14 b15 df : Option α} : ts_ 0 [0, 1, 2, 3, 4, 5, 6, 7, 8, 9, 10, 11, 12, 13, 14, 15] [b0, b1, b2, b3, b4, b5, b6, b7, b8, b9, b10, b11, b12, b13, b14, b15] df = b0 := rfl
theorem t16_1 {α : Type} {b0 b1 b2 b3 b4 b5 b6 b7 b8 b9 b10 b11 b12 b13 b14 b15 df : Option α} : ts_ 1 [0, 1, 2, 3, 4, 5, 6, 7, 8, 9, 10, 11, 12, 13, 14, 15] [b0, b1, b2, b3, b4, b5, b6, b7, b8, b9, b10, b11, b12, b13, b14, b15] df = b1 := rfl
theorem t16_2 {α : Type} {b0 b1 b2 b3 b4 b5 b6 b7 b8 b9 b10 b11 b12 b13 b14 b15 df : Option α} : ts_ 2 [0, 1, 2, 3, 4, 5, 6, 7, 8, 9, 10, 11, 12, 13, 14, 15] [b0, b1, b2, b3, b4, b5, b6, b7, b8, b9, b10, b11, b12, b13, b14, b15] df = b2 := rfl
theorem t16_3 {α : Type} {b0 b1 b2 b3 b4 b5 b6 b7 b8 b9 b10 b11 b12 b13 b14 b15 df : Option α} : ts_ 3 [0, 1, 2, 3, 4, 5, 6, 7, 8, 9, 10, 11, 12, 13, 14, 15] [b0, b1, b2, b3, b4, b5, b6, b7, b8, b9, b10, b11, b12, b13, b14, b15] df = b3 := rfl
theorem t16_4 {α : Type} {b0 b1 b2 b3 b4 b5 b6 b7 b8 b9 b10 b11 b12 b13 b14 b15 df : Option α} : ts_ 4 [0, 1, 2, 3, 4, 5, 6, 7, 8, 9, 10, 11, 12, 13, 14, 15] [b0, b1, b2, b3, b4, b5, b6, b7, b8, b9, b10, b11, b12, b13, b14, b15] df = b4 := rfl
theorem t16_5 {α : Type} {b0 b1 b2 b3 b4 b5 b6 b7 b8 b9 b10 b11 b12 b13 b14 b15 df : Option α} : ts_ 5 [0, 1, 2, 3, 4, 5, 6, 7, 8, 9, 10, 11, 12, 13, 14, 15] [b0, b1, b2, b3, b4, b5, b6, b7, b8, b9, b10, b11, b12, b13, b14, b15] df = b5 := rfl
theorem t16_6 {α : Type} {b0 b1 b2 b3 b4 b5 b6 b7 b8 b9 b10 b11 b12 b13 b14 b15 df : Option α} : ts_ 6 [0, 1, 2, 3, 4, 5, 6, 7, 8, 9, 10, 11, 12, 13, 14, 15] [b0, b1, b2, b3, b4, b5, b6, b7, b8, b9, b10, b11, b12, b13, b14, b15] df = b6 := rfl
theorem t16_7 {α : Type} {b0 b1 b2 b3 b4 b5 b6 b7 b8 b9 b10 b11 b12 b13 b14 b15 df : Option α} : ts_ 7 [0, 1, 2, 3, 4, 5, 6, 7, 8, 9, 10, 11, 12, 13, 14, 15] [b0, b1, b2, b3, b4, b5, b6, b7, b8, b9, b10, b11, b12, b13, b14, b15] df = b7 := rfl
theorem t16_8 {α : Type} {b0 b1 b2 b3 b4 b5 b6 b7 b8 b9 b10 b11 b12 b13 b14 b15 df : Option α} : ts_ 8 [0, 1, 2, 3, 4, 5, 6, 7, 8, 9, 10, 11, 12, 13, 14, 15] [b0, b1, b2, b3, b4, b5, b6, b7, b8, b9, b10, b11, b12, b13, b14, b15] df = b8 := rfl
theorem t16_9 {α : Type} {b0 b1 b2 b3 b4 b5 b6 b7 b8 b9 b10 b11 b12 b13 b14 b15 df : Option α} : ts_ 9 [0, 1, 2, 3, 4, 5, 6, 7, 8, 9, 10, 11, 12, 13, 14, 15] [b0, b1, b2, b3, b4, b5, b6, b7, b8, b9, b10, b11, b12, b13, b14, b15] df = b9 := rfl
theorem t16_10 {α : Type} {b0 b1 b2 b3 b4 b5 b6 b7 b8 b9 b10 b11 b12 b13 b14 b15 df : Option α} : ts_ 10 [0, 1, 2, 3, 4, 5, 6, 7, 8, 9, 10, 11, 12, 13, 14, 15] [b0, b1, b2, b3, b4, b5, b6, b7, b8, b9, b10, b11, b12, b13, b14, b15] df = b10 := rfl
theorem t16_11 {α : Type} {b0 b1 b2 b3 b4 b5 b6 b7 b8 b9 b10 b11 b12 b13 b14 b15 df : Option α} : ts_ 11 [0, 1, 2, 3, 4, 5, 6, 7, 8, 9, 10, 11, 12, 13, 14, 15] [b0, b1, b2, b3, b4, b5, b6, b7, b8, b9, b10, b11, b12, b13, b14, b15] df = b11 := rfl
theorem t16_12 {α : Type} {b0 b1 b2 b3 b4 b5 b6 b7 b8 b9 b10 b11 b12 b13 b14 b15 df : Option α} : ts_ 12 [0, 1, 2, 3, 4, 5, 6, 7, 8, 9, 10, 11, 12, 13, 14, 15] [b0, b1, b2, b3, b4, b5, b6, b7, b8, b9, b10, b11, b12, b13, b14, b15] df = b12 := rfl
theorem t16_13 {α : Type} {b0 b1 b2 b3 b4 b5 b6 b7 b8 b9 b10 b11 b12 b13 b14 b15 df : Option α} : ts_ 13 [0, 1, 2, 3, 4, 5, 6, 7, 8, 9, 10, 11, 12, 13, 14, 15] [b0, b1, b2, b3, b4, b5, b6, b7, b8, b9, b10, b11, b12, b13, b14, b15] df = b13 := rfl
theorem t16_14 {α : Type} {b0 b1 b2 b3 b4 b5 b6 b7 b8 b9 b10 b11 b12 b13 b14 b15 df : Option α} : ts_ 14 [0, 1, 2, 3, 4, 5, 6, 7, 8, 9, 10, 11, 12, 13, 14, 15] [b0, b1, b2, b3, b4, b5, b6, b7, b8, b9, b10, b11, b12, b13, b14, b15] df = b14 := rfl
theorem t16_15 {α : Type} {b0 b1 b2 b3 b4 b5 b6 b7 b8 b9 b10 b11 b12 b13 b14 b15 df : Option α} : ts_ 15 [0, 1, 2, 3, 4, 5, 6, 7, 8, 9, 10, 11, 12, 13, 14, 15] [b0, b1, b2, b3, b4, b5, b6, b7, b8, b9, b10, b11, b12, b13, b14, b15] df = b15 := rfl
theorem t16_d {α : Type} {b0 b1 b2 b3 b4 b5 b6 b7 b8 b9 b10 b11 b12 b13 b14 b15 df : Option α} {a : Int} (ha : rg_ a) (h : a ≠ 0 ∧ a ≠ 1 ∧ a ≠ 2 ∧ a ≠ 3 ∧ a ≠ 4 ∧ a ≠ 5 ∧ a ≠ 6 ∧ a ≠ 7 ∧ a ≠ 8 ∧ a ≠ 9 ∧ a ≠ 10 ∧ a ≠ 11 ∧ a ≠ 12 ∧ a ≠ 13 ∧ a ≠ 14 ∧ a ≠ 15) : ts_ a [0, 1, 2, 3, 4, 5, 6, 7, 8, 9, 10, 11, 12, 13, 14, 15] [b0, b1, b2, b3, b4, b5, b6, b7, b8, b9, b10, b11, b12, b13, b14, b15] df = df := by
  unfold ts_
  rw [if_pos ha]
  simp only [tw_]
  rw [if_neg (by omega), if_neg (by omega), if_neg (by omega), if_neg (by omega), if_neg (by omega), if_neg (by omega), if_neg (by omega), if_neg (by omega), if_neg (by omega), if_neg (by omega), if_neg (by omega), if_neg (by omega), if_neg (by omega), if_neg (by omega), if_neg (by omega), if_neg (by omega)]
theorem t13_0 {α : Type} {b0 b1 b2 b3 b4 b5 b6 b7 b8 b9 b10 b11 b12 df : Option α} : ts_ 0 [0, 1, 2, 3, 7, 8, 9, 10, 11, 12, 13, 14, 15] [b0, b1, b2, b3, b4, b5, b6, b7, b8, b9, b10, b11, b12] df = b0 := rfl
theorem t13_1 {α : Type} {b0 b1 b2 b3 b4 b5 b6 b7 b8 b9 b10 b11 b12 df : Option α} : ts_ 1 [0, 1, 2, 3, 7, 8, 9, 10, 11, 12, 13, 14, 15] [b0, b1, b2, b3, b4, b5, b6, b7, b8, b9, b10, b11, b12] df = b1 := rfl
theorem t13_2 {α : Type} {b0 b1 b2 b3 b4 b5 b6 b7 b8 b9 b10 b11 b12 df : Option α} : ts_ 2 [0, 1, 2, 3, 7, 8, 9, 10, 11, 12, 13, 14, 15] [b0, b1, b2, b3, b4, b5, b6, b7, b8, b9, b10, b11, b12] df = b2 := rfl
theorem t13_3 {α : Type} {b0 b1 b2 b3 b4 b5 b6 b7 b8 b9 b10 b11 b12 df : Option α} : ts_ 3 [0, 1, 2, 3, 7, 8, 9, 10, 11, 12, 13, 14, 15] [b0, b1, b2, b3, b4, b5, b6, b7, b8, b9, b10, b11, b12] df = b3 := rfl
theorem t13_4 {α : Type} {b0 b1 b2 b3 b4 b5 b6 b7 b8 b9 b10 b11 b12 df : Option α} : ts_ 7 [0, 1, 2, 3, 7, 8, 9, 10, 11, 12, 13, 14, 15] [b0, b1, b2, b3, b4, b5, b6, b7, b8, b9, b10, b11, b12] df = b4 := rfl
theorem t13_5 {α : Type} {b0 b1 b2 b3 b4 b5 b6 b7 b8 b9 b10 b11 b12 df : Option α} : ts_ 8 [0, 1, 2, 3, 7, 8, 9, 10, 11, 12, 13, 14, 15] [b0, b1, b2, b3, b4, b5, b6, b7, b8, b9, b10, b11, b12] df = b5 := rfl
theorem t13_6 {α : Type} {b0 b1 b2 b3 b4 b5 b6 b7 b8 b9 b10 b11 b12 df : Option α} : ts_ 9 [0, 1, 2, 3, 7, 8, 9, 10, 11, 12, 13, 14, 15] [b0, b1, b2, b3, b4, b5, b6, b7, b8, b9, b10, b11, b12] df = b6 := rfl
theorem t13_7 {α : Type} {b0 b1 b2 b3 b4 b5 b6 b7 b8 b9 b10 b11 b12 df : Option α} : ts_ 10 [0, 1, 2, 3, 7, 8, 9, 10, 11, 12, 13, 14, 15] [b0, b1, b2, b3, b4, b5, b6, b7, b8, b9, b10, b11, b12] df = b7 := rfl
theorem t13_8 {α : Type} {b0 b1 b2 b3 b4 b5 b6 b7 b8 b9 b10 b11 b12 df : Option α} : ts_ 11 [0, 1, 2, 3, 7, 8, 9, 10, 11, 12, 13, 14, 15] [b0, b1, b2, b3, b4, b5, b6, b7, b8, b9, b10, b11, b12] df = b8 := rfl
theorem t13_9 {α : Type} {b0 b1 b2 b3 b4 b5 b6 b7 b8 b9 b10 b11 b12 df : Option α} : ts_ 12 [0, 1, 2, 3, 7, 8, 9, 10, 11, 12, 13, 14, 15] [b0, b1, b2, b3, b4, b5, b6, b7, b8, b9, b10, b11, b12] df = b9 := rfl
theorem t13_10 {α : Type} {b0 b1 b2 b3 b4 b5 b6 b7 b8 b9 b10 b11 b12 df : Option α} : ts_ 13 [0, 1, 2, 3, 7, 8, 9, 10, 11, 12, 13, 14, 15] [b0, b1, b2, b3, b4, b5, b6, b7, b8, b9, b10, b11, b12] df = b10 := rfl
theorem t13_11 {α : Type} {b0 b1 b2 b3 b4 b5 b6 b7 b8 b9 b10 b11 b12 df : Option α} : ts_ 14 [0, 1, 2, 3, 7, 8, 9, 10, 11, 12, 13, 14, 15] [b0, b1, b2, b3, b4, b5, b6, b7, b8, b9, b10, b11, b12] df = b11 := rfl
theorem t13_12 {α : Type} {b0 b1 b2 b3 b4 b5 b6 b7 b8 b9 b10 b11 b12 df : Option α} : ts_ 15 [0, 1, 2, 3, 7, 8, 9, 10, 11, 12, 13, 14, 15] [b0, b1, b2, b3, b4, b5, b6, b7, b8, b9, b10, b11, b12] df = b12 := rfl
theorem t13_d {α : Type} {b0 b1 b2 b3 b4 b5 b6 b7 b8 b9 b10 b11 b12 df : Option α} {a : Int} (ha : rg_ a) (h : a ≠ 0 ∧ a ≠ 1 ∧ a ≠ 2 ∧ a ≠ 3 ∧ a ≠ 7 ∧ a ≠ 8 ∧ a ≠ 9 ∧ a ≠ 10 ∧ a ≠ 11 ∧ a ≠ 12 ∧ a ≠ 13 ∧ a ≠ 14 ∧ a ≠ 15) : ts_ a [0, 1, 2, 3, 7, 8, 9, 10, 11, 12, 13, 14, 15] [b0, b1, b2, b3, b4, b5, b6, b7, b8, b9, b10, b11, b12] df = df := by
  unfold ts_
  rw [if_pos ha]
  simp only [tw_]
  rw [if_neg (by omega), if_neg (by omega), if_neg (by omega), if_neg (by omega), if_neg (by omega), if_neg (by omega), if_neg (by omega), if_neg (by omega), if_neg (by omega), if_neg (by omega), if_neg (by omega), if_neg (by omega), if_neg (by omega)]
section AC
variable {μ ν : mu_T} {s : Int → Int}
def un_ (s : Int → Int) : Int := cn_ (fun k => decide (s (11 + k) ≠ -15)) 6
def co_ (s : Int → Int) (a : Int) : Int := cn_ (fun c => decide (s (17 + c) = 1 ∧ s (41 + c) = a)) 24
theorem l_ni (hr6 : ∀ k, 0 ≤ k → k < 6 → μ 6 k = s (11 + k)) (hn : ∀ k, 0 ≤ k → k < 6 → rg_ (s (11 + k))) {c0 : Int} : ∀ (n i : Nat), i + n = 6 → ∀ f : Nat, n < f → f_X2_namesInUse_L4 μ f (c0 + cn_ (fun k => decide (s (11 + k) ≠ -15)) i) i = some (c0 + cn_ (fun k => decide (s (11 + k) ≠ -15)) 6) := by
  intro n
  induction n with
  | zero =>
    intro i hi f hf
    obtain ⟨f', rfl⟩ : ∃ f', f = f' + 1 := ⟨f - 1, by omega⟩
    have e : i = 6 := by omega
    subst e
    rw [f_X2_namesInUse_L4, lt_n (by decide) (by decide) (by decide)]
  | succ n ih =>
    intro i hi f hf
    obtain ⟨f', rfl⟩ : ∃ f', f = f' + 1 := ⟨f - 1, by omega⟩
    have q := ih (i + 1) (by omega) f' (by omega)
    rw [cn_s, ← Int.add_assoc] at q
    rw [f_X2_namesInUse_L4, lt_y (by omega) (by decide) (by omega), rd_e (by omega) (by omega), hr6 _ (by omega) (by omega), jn_e]
    by_cases hc : s (11 + (i : Int)) ≠ -15
    · rw [if_pos (decide_eq_true hc)] at q
      rw [eq_n (hn _ (by omega) (by omega)) (by decide) hc]
      exact q
    · rw [if_neg (by rw [decide_eq_false hc]; decide), Int.add_zero] at q
      rw [eq_y (Decidable.not_not.mp hc)]
      exact q
theorem l_nu (hn : ∀ k, 0 ≤ k → k < 6 → rg_ (ν 1 (11 + k))) {c0 : Int} : ∀ (n i : Nat), i + n = 6 → ∀ f : Nat, n < f → f_X12_namesUsed_L4 ν f (c0 + cn_ (fun k => decide (ν 1 (11 + k) ≠ -15)) i) i = some (c0 + cn_ (fun k => decide (ν 1 (11 + k) ≠ -15)) 6) := by
  intro n
  induction n with
  | zero =>
    intro i hi f hf
    obtain ⟨f', rfl⟩ : ∃ f', f = f' + 1 := ⟨f - 1, by omega⟩
    have e : i = 6 := by omega
    subst e
    rw [f_X12_namesUsed_L4, lt_n (by decide) (by decide) (by decide)]
  | succ n ih =>
    intro i hi f hf
    obtain ⟨f', rfl⟩ : ∃ f', f = f' + 1 := ⟨f - 1, by omega⟩
    have q := ih (i + 1) (by omega) f' (by omega)
    rw [cn_s, ← Int.add_assoc] at q
    rw [f_X12_namesUsed_L4, lt_y (by omega) (by decide) (by omega), rd_e (by omega) (by omega), jn_e]
    by_cases hc : ν 1 (11 + (i : Int)) ≠ -15
    · rw [if_pos (decide_eq_true hc)] at q
      rw [eq_n (hn _ (by omega) (by omega)) (by decide) hc]
      exact q
    · rw [if_neg (by rw [decide_eq_false hc]; decide)] at q
      rw [eq_y (Decidable.not_not.mp hc)]
      exact q
theorem e_namesInUse (hr6 : ∀ k, 0 ≤ k → k < 6 → μ 6 k = s (11 + k)) (hn : ∀ k, 0 ≤ k → k < 6 → rg_ (s (11 + k))) : f_X2_namesInUse μ = some (un_ s) := by
  obtain ⟨F, hF, hF2⟩ := F_big
  unfold f_X2_namesInUse
  rw [← hF2]
  have q := l_ni hr6 hn (c0 := 0) 6 0 (by decide) F (by omega)
  rw [Int.zero_add, Int.zero_add] at q
  exact q
theorem e_namesUsed (hn : ∀ k, 0 ≤ k → k < 6 → rg_ (ν 1 (11 + k))) : f_X12_namesUsed ν = some (un_ (ν 1)) := by
  obtain ⟨F, hF, hF2⟩ := F_big
  unfold f_X12_namesUsed
  rw [← hF2]
  have q := l_nu hn (c0 := 0) 6 0 (by decide) F (by omega)
  rw [Int.zero_add, Int.zero_add] at q
  exact q
theorem l_mt (hT : iv_T (ν 1)) {a : Int} (ha : rg_ a) {c0 : Int} : ∀ (n i : Nat), i + n = 24 → ∀ f : Nat, n < f → f_X12_manyThat_L4 a ν f (c0 + cn_ (fun c => decide (ν 1 (17 + c) = 1 ∧ ν 1 (41 + c) = a)) i) i = some (c0 + cn_ (fun c => decide (ν 1 (17 + c) = 1 ∧ ν 1 (41 + c) = a)) 24) := by
  intro n
  induction n with
  | zero =>
    intro i hi f hf
    obtain ⟨f', rfl⟩ : ∃ f', f = f' + 1 := ⟨f - 1, by omega⟩
    have e : i = 24 := by omega
    subst e
    rw [f_X12_manyThat_L4, lt_n (by decide) (by decide) (by decide)]
  | succ n ih =>
    intro i hi f hf
    obtain ⟨f', rfl⟩ : ∃ f', f = f' + 1 := ⟨f - 1, by omega⟩
    have q := ih (i + 1) (by omega) f' (by omega)
    rw [cn_s, ← Int.add_assoc] at q
    rw [f_X12_manyThat_L4, lt_y (by omega) (by decide) (by omega), rd_e (by omega) (by omega)]
    by_cases hc : ν 1 (17 + (i : Int)) = 1 ∧ ν 1 (41 + (i : Int)) = a
    · rw [if_pos (decide_eq_true hc)] at q
      simp only [jn_e]
      rw [eq_y hc.1, rd_e (by omega) (by omega), eq_y hc.2]
      exact q
    · rw [if_neg (by rw [decide_eq_false hc]; decide)] at q
      simp only [jn_e]
      have w := hT i (by omega) (by omega)
      by_cases h1 : ν 1 (17 + (i : Int)) = 1
      · rw [eq_y h1, rd_e (by omega) (by omega), eq_n (by omega) ha (fun z => hc ⟨h1, z⟩)]
        exact q
      rw [eq_n (by omega) (by decide) h1]
      exact q
theorem e_manyThat (hT : iv_T (ν 1)) {a : Int} (ha : rg_ a) : f_X12_manyThat ν a = some (co_ (ν 1) a) := by
  obtain ⟨F, hF, hF2⟩ := F_big
  unfold f_X12_manyThat
  rw [← hF2]
  have q := l_mt hT ha (c0 := 0) 24 0 (by decide) F (by omega)
  rw [Int.zero_add, Int.zero_add] at q
  exact q
theorem e_colours (hT : iv_T s) (hh : ∀ c, 0 ≤ c → c < 24 → μ 4 c = if s (17 + c) = 0 then -1 else s (41 + c)) {a : Int} (ha : 0 ≤ a ∧ a ≤ 2) : f_X2_urnsOf μ a = some (co_ s a) := by
  rw [e_urnsOf (by omega) (h4_rg hT hh)]
  congr 1
  refine cn_eq 24 (fun c c0 c1 => ?_)
  have q := hT c c0 (by omega)
  rw [hh c c0 (by omega)]
  by_cases h : s (17 + c) = 0
  · rw [if_pos h, decide_eq_false (by omega), decide_eq_false (by omega)]
  · rw [if_neg h]
    by_cases h2 : s (41 + c) = a
    · rw [decide_eq_true h2, decide_eq_true ⟨by omega, h2⟩]
    · rw [decide_eq_false h2, decide_eq_false (fun z => h2 z.2)]
theorem p_account : pf_account RR_ := fun t μ ν a _ hR ha => by
  have hS := RR_skip t μ ν hR
  obtain ⟨hr, hI⟩ : hr_ μ (ν 1) ∧ iv_ (60 * ((t + 1 : Nat) : Int)) (ν 1) := hS.1
  obtain ⟨r1, r2, r3, r4, r5, r6, r7, ⟨r8, r9⟩, ⟨r10, r11⟩, r12, r13, r14, r15, r16, r17, r18, r19⟩ := hr
  unfold f_X11_account f_X12_account
  rw [e_in ha (by decide) (by decide), bd_some, tr_0]
  by_cases v : 4 ≤ a ∧ a ≤ 6
  · rw [if_pos v, e_manyThat hI.1 (by omega), bd_some]
    rcases (show a = 4 ∨ a = 5 ∨ a = 6 by omega) with rfl | rfl | rfl
    · rw [t16_4, e_colours hI.1 r4 (by decide), bd_some]
      exact ⟨_, rfl, rfl, hS⟩
    · rw [t16_5, e_colours hI.1 r4 (by decide), bd_some]
      exact ⟨_, rfl, rfl, hS⟩
    · rw [t16_6, e_colours hI.1 r4 (by decide), bd_some]
      exact ⟨_, rfl, rfl, hS⟩
  · rw [if_neg v]
    by_cases b0 : a = 0
    · subst b0
      rw [t16_0, t13_0]
      exact ⟨_, by rw [nm_q, r14], by rw [rd_e (by decide) (by decide)], hS⟩
    by_cases b1 : a = 1
    · subst b1
      rw [t16_1, t13_1]
      exact ⟨_, by rw [nm_q, r12], by rw [rd_e (by decide) (by decide)], hS⟩
    by_cases b2 : a = 2
    · subst b2
      rw [t16_2, t13_2]
      exact ⟨_, by rw [nm_q, r13], by rw [rd_e (by decide) (by decide)], hS⟩
    by_cases b3 : a = 3
    · subst b3
      rw [t16_3, t13_3]
      rw [e_urns hI.1 r4, e_many hI.1, bd_some]
      exact ⟨_, rfl, rfl, hS⟩
    by_cases b7 : a = 7
    · subst b7
      rw [t16_7, t13_4]
      exact ⟨_, by rw [nm_q, r15], by rw [rd_e (by decide) (by decide)], hS⟩
    by_cases b8 : a = 8
    · subst b8
      rw [t16_8, t13_5]
      exact ⟨_, by rw [nm_q, r16], by rw [rd_e (by decide) (by decide)], hS⟩
    by_cases b9 : a = 9
    · subst b9
      rw [t16_9, t13_6]
      exact ⟨_, by rw [nm_q, r10], by rw [rd_e (by decide) (by decide)], hS⟩
    by_cases b10 : a = 10
    · subst b10
      rw [t16_10, t13_7]
      exact ⟨_, by rw [nm_q, r17], by rw [rd_e (by decide) (by decide)], hS⟩
    by_cases b11 : a = 11
    · subst b11
      rw [t16_11, t13_8]
      exact ⟨_, by rw [nm_q, r18], by rw [rd_e (by decide) (by decide)], hS⟩
    by_cases b12 : a = 12
    · subst b12
      rw [t16_12, t13_9]
      rw [e_namesInUse r6 (iv_g6 hI), e_namesUsed (iv_g6 hI), bd_some]
      exact ⟨_, rfl, rfl, hS⟩
    by_cases b13 : a = 13
    · subst b13
      rw [t16_13, t13_10]
      exact ⟨_, by rw [nm_q, r19], by rw [rd_e (by decide) (by decide)], hS⟩
    by_cases b14 : a = 14
    · subst b14
      rw [t16_14, t13_11]
      refine ⟨ν 0 10, ?_, rfl, hS⟩
      show (some (μ 141 3) : Option Int) = _
      rw [hS.2.2.2.2.1.2.1]
    by_cases b15 : a = 15
    · subst b15
      rw [t16_15, t13_12]
      exact ⟨ν 0 4, by rw [nm_q, hS.2.2.1.2.1], rfl, hS⟩
    rw [t16_d ha ⟨by omega, by omega, by omega, by omega, by omega, by omega, by omega, by omega, by omega, by omega, by omega, by omega, by omega, by omega, by omega, by omega⟩, t13_d ha ⟨by omega, by omega, by omega, by omega, by omega, by omega, by omega, by omega, by omega, by omega, by omega, by omega, by omega⟩]
    exact ⟨_, rfl, rfl, hS⟩
-- all that is held is there
theorem e_isThere (hT : iv_T (ν 1)) {x : Int} (hx : ft_ (ν 1) x) : f_X12_isThere ν x = some 1 := by
  unfold f_X12_isThere
  have hr := (ft_r hx).2
  by_cases h : x = -15
  · rw [eq_y h]
  · rw [eq_n hr (by decide) h, e_isUrn hT hr, bd_some, tr_0]
    rcases hx with q | q
    · exact absurd q h
    · rw [if_pos ⟨⟨q.1, q.2.1⟩, q.2.2⟩]
/-- a black urn's thread to a white one -/
abbrev bw_ (s : Int → Int) (k : Int) : Prop := s (41 + k / 4) = 2 ∧ s (137 + k) ≠ -15 ∧ s (41 + s (137 + k)) = 0
theorem l_au1 (hT : iv_T s) (hh : ∀ c, 0 ≤ c → c < 24 → μ 4 c = if s (17 + c) = 0 then -1 else s (41 + c)) (hr : ∀ k, 0 ≤ k → k < 96 → μ 1 k = s (137 + k)) (hf : ∀ k, 0 ≤ k → k < 96 → ft_ s (s (137 + k))) : f_X2_areUrns_o0o1 μ = some 1 := by
  have key : ∀ (n : Nat) (i : Int), 0 ≤ i → i + n = 96 → ∀ f : Nat, n < f → f_X2_areUrns_o0o1_L8 μ f i = some 1 := by
    intro n
    induction n with
    | zero =>
      intro i i0 hi f hf
      obtain ⟨f', rfl⟩ : ∃ f', f = f' + 1 := ⟨f - 1, by omega⟩
      rw [f_X2_areUrns_o0o1_L8, lt_n (by omega) (by decide) (by omega)]
    | succ n ih =>
      intro i i0 hi f hff
      obtain ⟨f', rfl⟩ : ∃ f', f = f' + 1 := ⟨f - 1, by omega⟩
      have q := ih (i + 1) (by omega) (by omega) f' (by omega)
      have w := hf i i0 (by omega)
      have wr := (ft_r w).2
      rw [f_X2_areUrns_o0o1_L8, lt_y (by omega) (by decide) (by omega), rd_e i0 (by omega), hr i i0 (by omega)]
      simp only [jn_e]
      by_cases h : s (137 + i) = -15
      · rw [eq_y h]
        exact q
      · rw [eq_n wr (by decide) h, e_hasUrn hT hh wr, bd_some, tr_0, if_pos ?_]
        · exact q
        · rcases w with z | z
          · exact absurd z h
          · exact ⟨⟨z.1, z.2.1⟩, z.2.2⟩
  obtain ⟨F, hF, hF2⟩ := F_big
  unfold f_X2_areUrns_o0o1
  rw [← hF2]
  exact key 96 0 (by decide) (by decide) F (by omega)
theorem l_au2 (hT : iv_T s) (hh : ∀ c, 0 ≤ c → c < 24 → μ 4 c = if s (17 + c) = 0 then -1 else s (41 + c)) (hr : ∀ k, 0 ≤ k → k < 24 → μ 2 k = s (113 + k)) (hf : ∀ k, 0 ≤ k → k < 24 → ft_ s (s (113 + k))) : f_X2_areUrns_o0o2 μ = some 1 := by
  have key : ∀ (n : Nat) (i : Int), 0 ≤ i → i + n = 24 → ∀ f : Nat, n < f → f_X2_areUrns_o0o2_L8 μ f i = some 1 := by
    intro n
    induction n with
    | zero =>
      intro i i0 hi f hf
      obtain ⟨f', rfl⟩ : ∃ f', f = f' + 1 := ⟨f - 1, by omega⟩
      rw [f_X2_areUrns_o0o2_L8, lt_n (by omega) (by decide) (by omega)]
    | succ n ih =>
      intro i i0 hi f hff
      obtain ⟨f', rfl⟩ : ∃ f', f = f' + 1 := ⟨f - 1, by omega⟩
      have q := ih (i + 1) (by omega) (by omega) f' (by omega)
      have w := hf i i0 (by omega)
      have wr := (ft_r w).2
      rw [f_X2_areUrns_o0o2_L8, lt_y (by omega) (by decide) (by omega), rd_e i0 (by omega), hr i i0 (by omega)]
      simp only [jn_e]
      by_cases h : s (113 + i) = -15
      · rw [eq_y h]
        exact q
      · rw [eq_n wr (by decide) h, e_hasUrn hT hh wr, bd_some, tr_0, if_pos ?_]
        · exact q
        · rcases w with z | z
          · exact absurd z h
          · exact ⟨⟨z.1, z.2.1⟩, z.2.2⟩
  obtain ⟨F, hF, hF2⟩ := F_big
  unfold f_X2_areUrns_o0o2
  rw [← hF2]
  exact key 24 0 (by decide) (by decide) F (by omega)
theorem l_au6 (hT : iv_T s) (hh : ∀ c, 0 ≤ c → c < 24 → μ 4 c = if s (17 + c) = 0 then -1 else s (41 + c)) (hr : ∀ k, 0 ≤ k → k < 6 → μ 6 k = s (11 + k)) (hf : ∀ k, 0 ≤ k → k < 6 → ft_ s (s (11 + k))) : f_X2_areUrns_o0o6 μ = some 1 := by
  have key : ∀ (n : Nat) (i : Int), 0 ≤ i → i + n = 6 → ∀ f : Nat, n < f → f_X2_areUrns_o0o6_L8 μ f i = some 1 := by
    intro n
    induction n with
    | zero =>
      intro i i0 hi f hf
      obtain ⟨f', rfl⟩ : ∃ f', f = f' + 1 := ⟨f - 1, by omega⟩
      rw [f_X2_areUrns_o0o6_L8, lt_n (by omega) (by decide) (by omega)]
    | succ n ih =>
      intro i i0 hi f hff
      obtain ⟨f', rfl⟩ : ∃ f', f = f' + 1 := ⟨f - 1, by omega⟩
      have q := ih (i + 1) (by omega) (by omega) f' (by omega)
      have w := hf i i0 (by omega)
      have wr := (ft_r w).2
      rw [f_X2_areUrns_o0o6_L8, lt_y (by omega) (by decide) (by omega), rd_e i0 (by omega), hr i i0 (by omega)]
      simp only [jn_e]
      by_cases h : s (11 + i) = -15
      · rw [eq_y h]
        exact q
      · rw [eq_n wr (by decide) h, e_hasUrn hT hh wr, bd_some, tr_0, if_pos ?_]
        · exact q
        · rcases w with z | z
          · exact absurd z h
          · exact ⟨⟨z.1, z.2.1⟩, z.2.2⟩
  obtain ⟨F, hF, hF2⟩ := F_big
  unfold f_X2_areUrns_o0o6
  rw [← hF2]
  exact key 6 0 (by decide) (by decide) F (by omega)
theorem e_h42 (hT : iv_T s) (hh : ∀ c, 0 ≤ c → c < 24 → μ 4 c = if s (17 + c) = 0 then -1 else s (41 + c)) {c : Int} (c0 : 0 ≤ c) (c1 : c < 24) : (μ 4 c = 2 ↔ s (41 + c) = 2) ∧ rg_ (μ 4 c) := by
  have q := hT c c0 c1
  rw [hh c c0 c1]
  split <;> omega
theorem l_hb (hT : iv_T s) (hh : ∀ c, 0 ≤ c → c < 24 → μ 4 c = if s (17 + c) = 0 then -1 else s (41 + c)) (hr : ∀ k, 0 ≤ k → k < 96 → μ 1 k = s (137 + k)) (hf : ∀ k, 0 ≤ k → k < 96 → ft_ s (s (137 + k))) : ∀ (n : Nat) (i : Int), 0 ≤ i → i + n = 96 → ∀ f : Nat, n < f → ((∀ k, i ≤ k → k < 96 → ¬ bw_ s k) → f_X2_hasBlackToWhite_L2 μ f i = some 0) ∧ ((∃ k, i ≤ k ∧ k < 96 ∧ bw_ s k) → f_X2_hasBlackToWhite_L2 μ f i = some 1) := by
  intro n
  induction n with
  | zero =>
    intro i i0 hi f hff
    obtain ⟨f', rfl⟩ : ∃ f', f = f' + 1 := ⟨f - 1, by omega⟩
    refine ⟨fun _ => ?_, fun ⟨k, a, b, _⟩ => by omega⟩
    rw [f_X2_hasBlackToWhite_L2, lt_n (by omega) (by decide) (by omega)]
  | succ n ih =>
    intro i i0 hi f hff
    obtain ⟨f', rfl⟩ : ∃ f', f = f' + 1 := ⟨f - 1, by omega⟩
    obtain ⟨q1, q2⟩ := ih (i + 1) (by omega) (by omega) f' (by omega)
    have w := hf i i0 (by omega)
    have wr := (ft_r w).2
    have c4 := e_h42 (μ := μ) hT hh (c := i / 4) (by omega) (by omega)
    have ev : f_X2_hasBlackToWhite_L2 μ (f' + 1) i = if bw_ s i then some 1 else f_X2_hasBlackToWhite_L2 μ f' (i + 1) := by
      rw [f_X2_hasBlackToWhite_L2, lt_y (by omega) (by decide) (by omega), dv_e (by omega) (by decide) i0 (by decide), rd_e (by omega) (by omega)]
      simp only [jn_e, nm_q]
      by_cases h2 : s (41 + i / 4) = 2
      · rw [eq_y (c4.1.mpr h2), rd_e i0 (by omega), hr i i0 (by omega), e_isWhite hT hh wr, bd_some, tr_0]
        by_cases h3 : ur9_ s (s (137 + i)) ∧ s (41 + s (137 + i)) = 0
        · rw [if_pos h3, if_pos ⟨h2, by have := h3.1.1; omega, h3.2⟩]
        · rw [if_neg h3, if_neg (fun z => h3 ?_)]
          rcases w with y | y
          · exact absurd y z.2.1
          · exact ⟨⟨⟨y.1, y.2.1⟩, y.2.2⟩, z.2.2⟩
      · rw [eq_n c4.2 (by decide) (fun z => h2 (c4.1.mp z)), if_neg (fun z => h2 z.1)]
    rw [ev]
    refine ⟨fun h => ?_, fun ⟨k, a, b, c⟩ => ?_⟩
    · rw [if_neg (h i (by omega) (by omega))]
      exact q1 (fun k a b => h k (by omega) b)
    · by_cases hb : bw_ s i
      · rw [if_pos hb]
      · rw [if_neg hb]
        refine q2 ⟨k, ?_, b, c⟩
        by_cases hk : k = i
        · rw [hk] at c
          exact absurd c hb
        · omega
end AC
