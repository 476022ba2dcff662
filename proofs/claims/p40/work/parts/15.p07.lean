/-! the reference's rows are copied -/
theorem F_big : ∃ F : Nat, 3000 < F ∧ F = 20000 := ⟨20000, Nat.le_of_ble_eq_true rfl, rfl⟩
theorem l_rem : ∀ (n : Nat) (i : Int), 0 ≤ i → i + n = 293 → ∀ f : Nat, n < f → ∀ ν : mu_T, ∃ ν' : mu_T, f_X12_remembers_L2 f i ν = some ν' ∧ (∀ q, q ≠ 2 → ν' q = ν q) ∧ (∀ k, i ≤ k → k < 293 → ν' 2 k = ν 1 k) := by
  intro n
  induction n with
  | zero =>
    intro i i0 hi f hf ν
    obtain ⟨f', rfl⟩ : ∃ f', f = f' + 1 := ⟨f - 1, by omega⟩
    refine ⟨ν, ?_, fun _ _ => rfl, fun k a b => by omega⟩
    rw [f_X12_remembers_L2, lt_n (by omega) (by decide) (by omega)]
  | succ n ih =>
    intro i i0 hi f hf ν
    obtain ⟨f', rfl⟩ : ∃ f', f = f' + 1 := ⟨f - 1, by omega⟩
    obtain ⟨ν', h1, h2, h3⟩ := ih (i + 1) (by omega) (by omega) f' (by omega) (st_ ν 2 i (ν 1 i))
    -- the place i itself stays
    have h4 : ∀ (m : Nat) (j : Int), 0 ≤ j → j + m = 293 → ∀ g : Nat, m < g → ∀ (κ κ' : mu_T), f_X12_remembers_L2 g j κ = some κ' → ∀ k, k < j → κ' 2 k = κ 2 k := by
      intro m
      induction m with
      | zero =>
        intro j j0 hj g hg κ κ' hκ k hk
        obtain ⟨g', rfl⟩ : ∃ g', g = g' + 1 := ⟨g - 1, by omega⟩
        rw [f_X12_remembers_L2, lt_n (by omega) (by decide) (by omega)] at hκ
        rw [Option.some.inj hκ]
      | succ m ihm =>
        intro j j0 hj g hg κ κ' hκ k hk
        obtain ⟨g', rfl⟩ : ∃ g', g = g' + 1 := ⟨g - 1, by omega⟩
        rw [f_X12_remembers_L2, lt_y (by omega) (by decide) (by omega), rd_e (by omega) (by omega), wr_e (by omega) (by omega), nm_q] at hκ
        rw [ihm (j + 1) (by omega) (by omega) g' (by omega) _ _ hκ k (by omega), st_s, if_neg (by omega)]
    refine ⟨ν', ?_, fun q hq => ?_, fun k a b => ?_⟩
    · rw [f_X12_remembers_L2, lt_y (by omega) (by decide) (by omega), rd_e (by omega) (by omega), wr_e (by omega) (by omega), nm_q]
      exact h1
    · rw [h2 q hq, st_n hq]
    · by_cases hk : k = i
      · rw [h4 n (i + 1) (by omega) (by omega) f' (by omega) _ _ h1 k (by omega), hk, st_s, if_pos rfl]
      · rw [h3 k (by omega) b, st_n (by decide)]
theorem e_remembers (ν : mu_T) : ∃ ν' : mu_T, f_X12_remembers ν = some ν' ∧ (∀ q, q ≠ 2 → ν' q = ν q) ∧ (∀ k, 0 ≤ k → k < 293 → ν' 2 k = ν 1 k) := by
  obtain ⟨F, hF, hF2⟩ := F_big
  unfold f_X12_remembers
  rw [← hF2]
  exact l_rem 293 0 (by decide) (by decide) F (by omega) ν
theorem l_sh {J : mu_T → Option (Int × mu_T)} : ∀ (n : Nat) (i : Int), 0 ≤ i → i + n = 2051 → ∀ f : Nat, n < f → ∀ ν : mu_T, ∃ ν' : mu_T, f_X12_changed_L11 J f i ν = J ν' ∧ (∀ q, q ≠ 4 → ν' q = ν q) ∧ (∀ k, i ≤ k → k < 2051 → ν' 4 k = ν 4 (k + 293)) ∧ (∀ k, k < i → ν' 4 k = ν 4 k) := by
  intro n
  induction n with
  | zero =>
    intro i i0 hi f hf ν
    obtain ⟨f', rfl⟩ : ∃ f', f = f' + 1 := ⟨f - 1, by omega⟩
    refine ⟨ν, ?_, fun _ _ => rfl, fun k a b => by omega, fun _ _ => rfl⟩
    rw [f_X12_changed_L11, lt_n (by omega) (by decide) (by omega)]
  | succ n ih =>
    intro i i0 hi f hf ν
    obtain ⟨f', rfl⟩ : ∃ f', f = f' + 1 := ⟨f - 1, by omega⟩
    obtain ⟨ν', h1, h2, h3, h4⟩ := ih (i + 1) (by omega) (by omega) f' (by omega) (st_ ν 4 i (ν 4 (i + 293)))
    refine ⟨ν', ?_, fun q hq => ?_, fun k a b => ?_, fun k a => ?_⟩
    · rw [f_X12_changed_L11, lt_y (by omega) (by decide) (by omega), rd_e (by omega) (by omega), wr_e (by omega) (by omega), nm_q]
      exact h1
    · rw [h2 q hq, st_n hq]
    · by_cases hk : k = i
      · rw [h4 k (by omega), hk, st_s, if_pos rfl]
      · rw [h3 k (by omega) b, st_s, if_neg (by omega)]
    · rw [h4 k (by omega), st_s, if_neg (by omega)]
theorem l_fr {c : Int} {κ : Int} (hκ : 1 ≤ κ ∧ κ ≤ 8) : ∀ (n : Nat) (i : Int), 0 ≤ i → i + n = 293 → ∀ f : Nat, n < f → ∀ ν : mu_T, ν 0 4 = κ → ∃ ν' : mu_T, f_X12_changed_L55 c f i ν = some (c, ν') ∧ (∀ q, q ≠ 4 → ν' q = ν q) ∧ (∀ k, i ≤ k → k < 293 → ν' 4 (293 * (κ - 1) + k) = ν 2 k) ∧ (∀ k, k < 293 * (κ - 1) + i ∨ 293 * κ ≤ k → ν' 4 k = ν 4 k) := by
  intro n
  induction n with
  | zero =>
    intro i i0 hi f hf ν hν
    obtain ⟨f', rfl⟩ : ∃ f', f = f' + 1 := ⟨f - 1, by omega⟩
    refine ⟨ν, ?_, fun _ _ => rfl, fun k a b => by omega, fun _ _ => rfl⟩
    rw [f_X12_changed_L55, lt_n (by omega) (by decide) (by omega)]
  | succ n ih =>
    intro i i0 hi f hf ν hν
    obtain ⟨f', rfl⟩ : ∃ f', f = f' + 1 := ⟨f - 1, by omega⟩
    obtain ⟨ν', h1, h2, h3, h4⟩ := ih (i + 1) (by omega) (by omega) f' (by omega) (st_ ν 4 (293 * (κ - 1) + i) (ν 2 i)) (by rw [st_n (by decide)]; exact hν)
    refine ⟨ν', ?_, fun q hq => ?_, fun k a b => ?_, fun k a => ?_⟩
    · rw [f_X12_changed_L55, lt_y (by omega) (by decide) (by omega), nm_q, hν, rd_e (by omega) (by omega), wr_e (by omega) (by omega), nm_q]
      exact h1
    · rw [h2 q hq, st_n hq]
    · by_cases hk : k = i
      · rw [h4 _ (by omega), hk, st_s, if_pos rfl]
      · rw [h3 k (by omega) b, st_n (by decide)]
    · rw [h4 k (by omega), st_s, if_neg (by omega)]
/-- what 'changed' does: the frame is kept as the last of the history -/
theorem e_changed (ν : mu_T) (c : Int) (hκ : 0 ≤ ν 0 4 ∧ ν 0 4 ≤ 8) : ∃ ν' : mu_T, f_X12_changed ν c = some (c, ν') ∧ (∀ q, q ≠ 4 → q ≠ 0 → ν' q = ν q) ∧ (∀ j, j ≠ 4 → ν' 0 j = ν 0 j) ∧ ν' 0 4 = (if ν 0 4 = 8 then 8 else ν 0 4 + 1) ∧ (∀ k, 0 ≤ k → k < 293 → ν' 4 (293 * (ν' 0 4 - 1) + k) = ν 2 k) ∧ (∀ m k, 0 ≤ m → m < ν' 0 4 - 1 → 0 ≤ k → k < 293 → ν' 4 (293 * m + k) = ν 4 (293 * (if ν 0 4 = 8 then m + 1 else m) + k)) := by
  obtain ⟨F, hF, hF2⟩ := F_big
  unfold f_X12_changed
  rw [← hF2]
  simp only [nm_q, jn_e]
  by_cases h8 : ν 0 4 = 8
  · rw [eq_y h8]
    obtain ⟨ν1, a1, a2, a3, a4⟩ := l_sh (J := fun μ40 => f_X12_changed_L55 c F 0 μ40) 2051 0 (by decide) (by decide) F (by omega) ν
    rw [a1]
    obtain ⟨ν2, b1, b2, b3, b4⟩ := l_fr (c := c) (κ := 8) (by omega) 293 0 (by decide) (by decide) F (by omega) ν1 (by rw [a2 0 (by decide)]; exact h8)
    have e4 : ν2 0 4 = 8 := by rw [b2 0 (by decide), a2 0 (by decide)]; exact h8
    refine ⟨ν2, b1, fun q q4 q0 => ?_, fun j hj => ?_, ?_, fun k k0 k1 => ?_, fun m k m0 m1 k0 k1 => ?_⟩
    · rw [b2 q q4, a2 q q4]
    · rw [b2 0 (by decide), a2 0 (by decide)]
    · rw [e4, if_pos h8]
    · rw [e4, b3 k k0 k1, a2 2 (by decide)]
    · rw [e4] at m1
      rw [if_pos h8, b4 _ (by omega), a3 _ (by omega) (by omega)]
      congr 1
      omega
  · rw [eq_n (by omega) (by decide) h8, wf_e]
    have e0 : (st_ ν 0 4 (ν 0 4 + 1)) 0 4 = ν 0 4 + 1 := by rw [st_s, if_pos rfl]
    obtain ⟨ν2, b1, b2, b3, b4⟩ := l_fr (c := c) (κ := ν 0 4 + 1) (by omega) 293 0 (by decide) (by decide) F (by omega) (st_ ν 0 4 (ν 0 4 + 1)) e0
    have e4 : ν2 0 4 = ν 0 4 + 1 := by rw [b2 0 (by decide)]; exact e0
    refine ⟨ν2, b1, fun q q4 q0 => ?_, fun j hj => ?_, ?_, fun k k0 k1 => ?_, fun m k m0 m1 k0 k1 => ?_⟩
    · rw [b2 q q4, st_n q0]
    · rw [b2 0 (by decide), st_s, if_neg hj]
    · rw [e4, if_neg h8]
    · rw [e4, b3 k k0 k1, st_n (by decide)]
    · rw [e4] at m1
      rw [if_neg h8, b4 _ (by omega), st_n (by decide)]
