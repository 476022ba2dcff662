/-! the beginning, on both sides -/
def s0_ (i : Int) (j : Int) : Int := if (11 ≤ j ∧ j < 17) ∨ (113 ≤ j ∧ j < 113 + i) ∨ (137 ≤ j ∧ j < 137 + 4 * i) then -15 else 0
def s1_ (i : Int) (j : Int) : Int := if 11 ≤ j ∧ j < 11 + i then -15 else 0
theorem em_s0 {i : Int} (hi : 0 ≤ i ∧ i < 24) : em_ (s0_ i) i = s0_ (i + 1) := by
  funext j
  unfold em_ s0_
  by_cases h1 : j = 17 + i ∨ j = 41 + i ∨ j = 65 + i ∨ j = 89 + i
  · rw [if_pos h1, if_neg (by omega)]
  · rw [if_neg h1]
    by_cases h2 : j = 113 + i ∨ (137 + 4 * i ≤ j ∧ j < 141 + 4 * i)
    · rw [if_pos h2, if_pos (by omega)]
    · rw [if_neg h2]
      by_cases h3 : (11 ≤ j ∧ j < 17) ∨ (113 ≤ j ∧ j < 113 + i) ∨ (137 ≤ j ∧ j < 137 + 4 * i)
      · rw [if_pos h3, if_pos (by omega)]
      · rw [if_neg h3, if_neg (by omega)]
theorem l_i99 : ∀ (n : Nat) (i : Int), 0 ≤ i → i + n = 24 → ∀ f : Nat, n < f → f_X12i_L99 f i (um_ mz_ 1 (s0_ i)) = some (um_ mz_ 1 (s0_ 24)) := by
  intro n
  induction n with
  | zero =>
    intro i i0 hi f hf
    obtain ⟨f', rfl⟩ : ∃ f', f = f' + 1 := ⟨f - 1, by omega⟩
    have e : i = 24 := by omega
    subst e
    rw [f_X12i_L99, lt_n (by decide) (by decide) (by decide)]
  | succ n ih =>
    intro i i0 hi f hf
    obtain ⟨f', rfl⟩ : ∃ f', f = f' + 1 := ⟨f - 1, by omega⟩
    rw [f_X12i_L99, lt_y (by omega) (by decide) (by omega), e_em ⟨i0, by omega⟩, bd_some, nm_q, em_s0 ⟨i0, by omega⟩, ih (i + 1) (by omega) (by omega) f' (by omega)]
theorem l_i74 {J : mu_T → Option mu_T} : ∀ (n : Nat) (i : Int), 0 ≤ i → i + n = 6 → ∀ f : Nat, n < f → f_X12i_L74 J f i (um_ mz_ 1 (s1_ i)) = J (um_ mz_ 1 (s1_ 6)) := by
  intro n
  induction n with
  | zero =>
    intro i i0 hi f hf
    obtain ⟨f', rfl⟩ : ∃ f', f = f' + 1 := ⟨f - 1, by omega⟩
    have e : i = 6 := by omega
    subst e
    rw [f_X12i_L74, lt_n (by decide) (by decide) (by decide)]
  | succ n ih =>
    intro i i0 hi f hf
    obtain ⟨f', rfl⟩ : ∃ f', f = f' + 1 := ⟨f - 1, by omega⟩
    have e : ur_ (s1_ i) (11 + i) (-15) = s1_ (i + 1) := by
      funext j
      unfold s1_
      by_cases h1 : j = 11 + i
      · rw [h1, if_pos (by omega)]
        exact if_pos rfl
      · have e2 : ur_ (fun j => if 11 ≤ j ∧ j < 11 + i then -15 else 0) (11 + i) (-15) j = (if 11 ≤ j ∧ j < 11 + i then -15 else 0) := if_neg h1
        rw [e2]
        by_cases h2 : 11 ≤ j ∧ j < 11 + i
        · rw [if_pos h2, if_pos (by omega)]
        · rw [if_neg h2, if_neg (by omega)]
    rw [f_X12i_L74, lt_y (by omega) (by decide) (by omega), wr_e (by omega) (by omega), st_um, nm_q, e, ih (i + 1) (by omega) (by omega) f' (by omega)]
theorem e_mM0 : mM0_ = um_ mz_ 1 (s0_ 24) := by
  obtain ⟨F, hF, hF2⟩ := F_big
  have h0 : mz_ = um_ mz_ 1 (s1_ 0) := by
    have e : s1_ 0 = mz_ 1 := by
      funext j
      unfold s1_
      rw [if_neg (by omega)]
    rw [e, um_id]
  have h6 : s1_ 6 = s0_ 0 := by
    funext j
    unfold s1_ s0_
    by_cases h : 11 ≤ j ∧ j < 17
    · rw [if_pos (by omega), if_pos (Or.inl h)]
    · rw [if_neg (by omega), if_neg (by omega)]
  have h : f_X12i mz_ = some (um_ mz_ 1 (s0_ 24)) := by
    have k := l_i74 (J := fun μ97 => f_X12i_L99 F 0 μ97) 6 0 (by decide) (by decide) F (by omega)
    rw [← h0, h6] at k
    unfold f_X12i
    rw [← hF2, jn_e]
    exact k.trans (l_i99 24 0 (by decide) (by decide) F (by omega))
  unfold mM0_
  rw [h]
  rfl
theorem cn_z0 {p : Int → Bool} : ∀ n : Nat, (∀ c : Int, 0 ≤ c → c < n → p c = false) → cn_ p n = 0
  | 0, _ => rfl
  | n + 1, h => by
    have e := h n (by omega) (by omega)
    unfold cn_
    rw [cn_z0 n (fun c a b => h c a (by omega)), e]
    rfl
theorem mXz_0 : mX0_ 0 = fun _ => 0 := mX_0 (i := 0) (by decide)
theorem mXz_1 : mX0_ 1 = fr_ 96 (-15) := mX_1 (i := 0) (by decide)
theorem mXz_2 : mX0_ 2 = fr_ 24 (-15) := mX_2 (i := 0) (by decide)
theorem mXz_3 : mX0_ 3 = fun _ => 0 := mX_3 (i := 0) (by decide)
theorem mXz_4 : mX0_ 4 = fr_ 24 (-1) := mX_4 (i := 0) (by decide)
theorem mXz_6 : mX0_ 6 = fr_ 6 (-15) := mX_6 (i := 0) (by decide)
theorem mXz_8 : mX0_ 8 = fun _ => 0 := mX_8 (i := 0) (by decide)
theorem mXz_9 : mX0_ 10 = fun _ => 0 := mX_10 (i := 0) (by decide)
theorem mXz_133 : mX0_ 133 = fun _ => -15 := by
  unfold mX0_
  rw [if_neg (by decide)]
  rfl
theorem mXz_138 : mX0_ 138 = fun _ => 0 := by
  unfold mX0_
  rw [if_neg (by decide)]
  rfl
theorem mXz_141 : mX0_ 141 = fun _ => 0 := by
  unfold mX0_
  rw [if_neg (by decide)]
  rfl
theorem mXz_142 : mX0_ 142 = br_ 16 := by
  unfold mX0_
  rw [if_neg (by decide)]
  rfl
theorem mXz_149 : mX0_ 149 = fun _ => 0 := by
  unfold mX0_
  rw [if_neg (by decide)]
  rfl
theorem mXz_150 : mX0_ 150 = br_ 16 := by
  unfold mX0_
  rw [if_neg (by decide)]
  rfl
theorem br_b {k : Int} : -128 ≤ br_ 16 k ∧ br_ 16 k ≤ 127 := by
  unfold br_
  split <;> omega
theorem p_start : RR_ 0 mX0_ mM0_ := by
  rw [e_mM0]
  have vA : ∀ j, 11 ≤ j → j < 17 → s0_ 24 j = -15 := fun j a b => if_pos (Or.inl ⟨a, b⟩)
  have vB : ∀ j, 113 ≤ j → j < 233 → s0_ 24 j = -15 := fun j a b => if_pos (by omega)
  have vC : ∀ j, (j < 11 ∨ (17 ≤ j ∧ j < 113) ∨ 233 ≤ j) → s0_ 24 j = 0 := fun j a => if_neg (by omega)
  generalize s0_ 24 = s at vA vB vC
  have n0 : ∀ j, (um_ mz_ 1 s) 0 j = 0 := fun j => rfl
  have c8 := vC 8 (by omega)
  have c9 := vC 9 (by omega)
  have c10 := vC 10 (by omega)
  have q0 := vC 0 (by omega)
  have q1 := vC 1 (by omega)
  have q2 := vC 2 (by omega)
  have q3 := vC 3 (by omega)
  have q4 := vC 4 (by omega)
  have q5 := vC 5 (by omega)
  have q6 := vC 6 (by omega)
  have q7 := vC 7 (by omega)
  have hbl : bl_ mX0_ 142 = 16 := by
    unfold bl_
    rw [mXz_142]
    decide
  have hbm : bl_ mX0_ 150 = 16 := by
    unfold bl_
    rw [mXz_150]
    decide
  refine ⟨?_, ⟨?_, Or.inl (n0 5)⟩, ⟨?_, ?_, ?_, fun m m0 m1 => ?_⟩, Or.inl ⟨n0 12, ?_, ?_⟩, ⟨?_, ?_, ?_, ?_, fun k k0 k1 => ?_, fun k _ _ => ?_⟩, ⟨?_, ?_, ?_, ?_, fun k k0 k1 => ?_, fun k _ _ => ?_⟩⟩
  · rw [um_self]
    refine ⟨⟨fun k k0 k1 => ?_, fun k k0 k1 => ?_, fun k k0 k1 => ?_, fun k k0 k1 => ?_, fun k k0 k1 kt => ?_, fun k k0 k1 => ?_, fun k k0 k1 => ?_, ⟨?_, fun k k0 k1 => ?_⟩, ⟨?_, fun k k0 k1 => ?_⟩, ?_, ?_, ?_, ?_, ?_, ?_, ?_, ?_⟩, ?_⟩
    · show mX0_ 1 k = s (137 + k)
      rw [mXz_1, vB _ (by omega) (by omega)]
      exact if_pos ⟨k0, k1⟩
    · show mX0_ 2 k = s (113 + k)
      rw [mXz_2, vB _ (by omega) (by omega)]
      exact if_pos ⟨k0, k1⟩
    · show mX0_ 3 k = s (65 + k)
      rw [mXz_3, vC _ (by omega)]
    · show mX0_ 4 k = if s (17 + k) = 0 then -1 else s (41 + k)
      rw [mXz_4, if_pos (vC _ (by omega))]
      exact if_pos ⟨k0, k1⟩
    · have w := vC (17 + k) (by omega)
      omega
    · show mX0_ 6 k = s (11 + k)
      rw [mXz_6, vA _ (by omega) (by omega)]
      exact if_pos ⟨k0, k1⟩
    · omega
    · show mX0_ 8 1 = s 8
      rw [mXz_8, c8]
    · omega
    · show mX0_ 10 1 = s 9
      rw [mXz_9, c9]
    · omega
    · show mX0_ 0 9 = s 0
      rw [mXz_0, q0]
    · show mX0_ 0 10 = s 1
      rw [mXz_0, q1]
    · show mX0_ 0 11 = s 2
      rw [mXz_0, q2]
    · show mX0_ 0 12 = s 3
      rw [mXz_0, q3]
    · show mX0_ 0 13 = s 4
      rw [mXz_0, q4]
    · show mX0_ 0 14 = s 5
      rw [mXz_0, q5]
    · show mX0_ 0 15 = s 6
      rw [mXz_0, q6]
    · show mX0_ 0 16 = s 7
      rw [mXz_0, q7]
    · refine ⟨fun c a b => ?_, ⟨by omega, by omega, fun _ => q1⟩, fun k a b => Or.inl (vB _ (by omega) (by omega)), fun c a b => ⟨Or.inl (vB _ (by omega) (by omega)), fun w => by omega⟩, fun k a b => ⟨Or.inl (vA _ (by omega) (by omega)), fun w => (w (vA _ (by omega) (by omega))).elim⟩, ⟨⟨by omega, ?_⟩, fun k a b => by omega, fun j k a b d => by omega, fun c a b w => ?_⟩, ⟨⟨by omega, ?_⟩, fun k a b => by omega, fun j k a b d => by omega, fun _ => c8⟩, ⟨by omega, fun _ => by omega, fun w => by omega⟩, ⟨?_, by omega⟩⟩
      · have w1 := vC (17 + c) (by omega)
        have w2 := vC (41 + c) (by omega)
        have w3 := vC (65 + c) (by omega)
        omega
      · rw [c9, cn_z0 24 (fun c a b => decide_eq_false (by rw [vC (65 + c) (by omega)]; decide))]
      · have w3 := vC (65 + c) (by omega)
        omega
      · rw [c8, cn_z0 24 (fun c a b => decide_eq_false (by rw [vC (41 + c) (by omega)]; decide))]
      · rw [q3, q4, cn_z0 24 (fun c a b => decide_eq_false (by rw [vC (17 + c) (by omega)]; decide))]
        rfl
  · rw [mXz_138]
    exact (n0 5).symm
  · rw [mXz_138]
    decide
  · rw [mXz_138]
    exact (n0 4).symm
  · rw [n0 4]
    decide
  · rw [n0 4] at m1
    omega
  · rw [mXz_133]
  · rw [mXz_133]
  · rw [mXz_141]
  · rw [mXz_141]
    exact (n0 10).symm
  · rw [n0 10, hbl]
    decide
  · exact Or.inl hbl
  · rw [n0 10] at k1
    omega
  · rw [mXz_142]
    exact br_b
  · rw [mXz_149]
  · rw [mXz_149]
    exact (n0 11).symm
  · rw [n0 11, hbm]
    decide
  · exact Or.inl hbm
  · rw [n0 11] at k1
    omega
  · rw [mXz_150]
    exact br_b
