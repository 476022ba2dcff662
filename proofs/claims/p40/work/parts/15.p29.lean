/-! ranks -/
section RK
variable {μ ν κ : mu_T} {s : Int → Int} {t : Int}
/-- an urn's weight -/
def wt_ (s : Int → Int) (u : Int) : Int := if s (17 + u) = 1 then (hd_ s u * 5 + hl_ s u) * 24 + 24 - u else 0
theorem hd_b {a : Int} : 0 ≤ hd_ s a ∧ hd_ s a ≤ 102 := by
  refine ⟨hd_0, ?_⟩
  unfold hd_
  have := cn_le (fun k => decide (s (137 + k) = a)) 96
  have := cn_le (fun k => decide (s (11 + k) = a)) 6
  omega
theorem hl_b {a : Int} : 0 ≤ hl_ s a ∧ hl_ s a ≤ 4 := ⟨cn_0 _ _, cn_le _ _⟩
theorem wt_b {u : Int} (h : 0 ≤ u ∧ u < 24) : 0 ≤ wt_ s u ∧ wt_ s u ≤ 20000 := by
  have := hd_b (s := s) (a := u)
  have := hl_b (s := s) (a := u)
  unfold wt_
  split <;> omega
theorem l_wa (hT : iv_T s) (hh : ∀ c, 0 ≤ c → c < 24 → μ 4 c = if s (17 + c) = 0 then -1 else s (41 + c)) (hr1 : ∀ k, 0 ≤ k → k < 96 → μ 1 k = s (137 + k)) (hg : ∀ k, 0 ≤ k → k < 96 → rg_ (s (137 + k))) (hr6 : ∀ k, 0 ≤ k → k < 6 → μ 6 k = s (11 + k)) (hn : ∀ k, 0 ≤ k → k < 6 → rg_ (s (11 + k))) : ∀ (n : Nat) (i : Int), 0 ≤ i → i + n = 24 → ∀ f : Nat, n < f → ∀ κ : mu_T, (∀ q, q ≠ 137 → κ q = μ q) → (∀ k, 0 ≤ k → k < i → κ 137 k = wt_ s k) → ∃ κ' : mu_T, f_X7_weighAll_L2 f i κ = some κ' ∧ (∀ q, q ≠ 137 → κ' q = μ q) ∧ ∀ k, 0 ≤ k → k < 24 → κ' 137 k = wt_ s k := by
  intro n
  induction n with
  | zero =>
    intro i i0 hi f hf κ h1 h2
    obtain ⟨f', rfl⟩ : ∃ f', f = f' + 1 := ⟨f - 1, by omega⟩
    refine ⟨κ, ?_, h1, fun k k0 k1 => h2 k k0 (by omega)⟩
    rw [f_X7_weighAll_L2, lt_n (by omega) (by decide) (by omega)]
  | succ n ih =>
    intro i i0 hi f hf κ h1 h2
    obtain ⟨f', rfl⟩ : ∃ f', f = f' + 1 := ⟨f - 1, by omega⟩
    have k1 : κ 1 = μ 1 := h1 1 (by decide)
    have k4 : κ 4 = μ 4 := h1 4 (by decide)
    have k6 : κ 6 = μ 6 := h1 6 (by decide)
    obtain ⟨κ', b1, b2, b3⟩ := ih (i + 1) (by omega) (by omega) f' (by omega) (st_ κ 137 i (wt_ s i)) (fun q hq => by rw [st_n hq, h1 q hq]) (fun k k0 k1 => by
      rw [st_s]
      by_cases hk : k = i
      · rw [if_pos hk, hk]
      · rw [if_neg hk]
        exact h2 k k0 (by omega))
    refine ⟨κ', ?_, b2, b3⟩
    rw [f_X7_weighAll_L2, lt_y (by omega) (by decide) (by omega), e_holdersOf (s := s) (by rw [k1]; exact hr1) hg (by rw [k6]; exact hr6) hn (by omega), bd_some, e_threadsFrom (s := s) (by rw [k1]; exact hr1) hg ⟨i0, by omega⟩, bd_some, e_hasUrn hT (by rw [k4]; exact hh) (by omega), bd_some]
    simp only [jn_e, nm_q]
    rw [tr_0]
    have ew : wt_ s i = if s (17 + i) = 1 then (hd_ s i * 5 + hl_ s i) * 24 + 24 - i else 0 := rfl
    by_cases u : ur9_ s i
    · rw [if_pos u.2] at ew
      rw [if_pos u, wr_e i0 (by omega), ← ew]
      exact b1
    · rw [if_neg (fun z => u ⟨⟨i0, by omega⟩, z⟩)] at ew
      rw [ew] at b1
      rw [if_neg u, wr_e i0 (by omega)]
      exact b1
theorem l_hv (hw : ∀ k, 0 ≤ k → k < 24 → κ 137 k = wt_ s k) {a : Int} (ha : rg_ a) {c0 : Int} : ∀ (n i : Nat), i + n = 24 → ∀ f : Nat, n < f → f_X7_heavierThan_L14 a κ f (c0 + cn_ (fun o => decide (a < wt_ s o)) i) i = some (c0 + cn_ (fun o => decide (a < wt_ s o)) 24) := by
  intro n
  induction n with
  | zero =>
    intro i hi f hf
    obtain ⟨f', rfl⟩ : ∃ f', f = f' + 1 := ⟨f - 1, by omega⟩
    have e : i = 24 := by omega
    subst e
    rw [f_X7_heavierThan_L14, lt_n (by decide) (by decide) (by decide)]
  | succ n ih =>
    intro i hi f hf
    obtain ⟨f', rfl⟩ : ∃ f', f = f' + 1 := ⟨f - 1, by omega⟩
    have q := ih (i + 1) (by omega) f' (by omega)
    rw [cn_s, ← Int.add_assoc] at q
    rw [f_X7_heavierThan_L14, lt_y (by omega) (by decide) (by omega), rd_e (by omega) (by omega), hw _ (by omega) (by omega), jn_e]
    by_cases hc : a < wt_ s (i : Int)
    · rw [if_pos (decide_eq_true hc)] at q
      have wb := wt_b (s := s) (u := (i : Int)) ⟨by omega, by omega⟩
      rw [lt_y ha (by omega) hc]
      exact q
    · rw [if_neg (by rw [decide_eq_false hc]; decide), Int.add_zero] at q
      have wb := wt_b (s := s) (u := (i : Int)) ⟨by omega, by omega⟩
      rw [lt_n ha (by omega) hc]
      exact q
theorem e_heavier (hw : ∀ k, 0 ≤ k → k < 24 → κ 137 k = wt_ s k) {a : Int} (ha : rg_ a) : f_X7_heavierThan κ a = some (cn_ (fun o => decide (a < wt_ s o)) 24) := by
  obtain ⟨F, hF, hF2⟩ := F_big
  unfold f_X7_heavierThan
  rw [← hF2]
  have q := l_hv hw ha (c0 := 0) 24 0 (by decide) F (by omega)
  rw [Int.zero_add, Int.zero_add] at q
  exact q
abbrev ah_ (s : Int → Int) (a b : Int) : Prop := hd_ s b < hd_ s a ∨ (hd_ s a = hd_ s b ∧ (hl_ s b < hl_ s a ∨ (hl_ s a = hl_ s b ∧ a < b)))
theorem e_isAhead (hg : ∀ k, 0 ≤ k → k < 96 → rg_ (ν 1 (137 + k))) (hn : ∀ k, 0 ≤ k → k < 6 → rg_ (ν 1 (11 + k))) {a b : Int} (ha : 0 ≤ a ∧ a < 24) (hb : 0 ≤ b ∧ b < 24) : f_X12_isAhead ν a b = some (if ah_ (ν 1) a b then 1 else 0) := by
  have q1 := hd_b (s := ν 1) (a := a)
  have q2 := hd_b (s := ν 1) (a := b)
  have q3 := hl_b (s := ν 1) (a := a)
  have q4 := hl_b (s := ν 1) (a := b)
  unfold f_X12_isAhead
  rw [e_held hg hn (by omega), bd_some, e_held hg hn (by omega), bd_some, e_holds hg ha, bd_some, e_holds hg hb, bd_some]
  by_cases h1 : hd_ (ν 1) a = hd_ (ν 1) b
  · rw [eq_y h1]
    by_cases h2 : hl_ (ν 1) b < hl_ (ν 1) a
    · rw [lt_y (by omega) (by omega) h2, if_pos (Or.inr ⟨h1, Or.inl h2⟩)]
    · rw [lt_n (by omega) (by omega) h2, bd_some, bd_some]
      by_cases h3 : hl_ (ν 1) a = hl_ (ν 1) b
      · rw [eq_y h3]
        by_cases h4 : a < b
        · rw [lt_y (by omega) (by omega) h4, if_pos (Or.inr ⟨h1, Or.inr ⟨h3, h4⟩⟩)]
        · rw [lt_n (by omega) (by omega) h4, if_neg (by omega)]
      · rw [eq_n (by omega) (by omega) h3, if_neg (by omega)]
  · rw [eq_n (by omega) (by omega) h1, bd_some, bd_some]
    by_cases h2 : hd_ (ν 1) b < hd_ (ν 1) a
    · rw [lt_y (by omega) (by omega) h2, if_pos (Or.inl h2)]
    · rw [lt_n (by omega) (by omega) h2, if_neg (by omega)]
theorem l_rk (hT : iv_T (ν 1)) (hg : ∀ k, 0 ≤ k → k < 96 → rg_ (ν 1 (137 + k))) (hn : ∀ k, 0 ≤ k → k < 6 → rg_ (ν 1 (11 + k))) {c : Int} (hcc : 0 ≤ c ∧ c < 24) {J : Int → Option Int} {c0 : Int} : ∀ (n i : Nat), i + n = 24 → ∀ f : Nat, n < f → f_X12_ranked_L13 J c ν f (c0 + cn_ (fun o => decide (ν 1 (17 + o) = 1 ∧ o ≠ c ∧ ah_ (ν 1) o c)) i) i = J (c0 + cn_ (fun o => decide (ν 1 (17 + o) = 1 ∧ o ≠ c ∧ ah_ (ν 1) o c)) 24) := by
  intro n
  induction n with
  | zero =>
    intro i hi f hf
    obtain ⟨f', rfl⟩ : ∃ f', f = f' + 1 := ⟨f - 1, by omega⟩
    have e : i = 24 := by omega
    subst e
    rw [f_X12_ranked_L13, lt_n (by decide) (by decide) (by decide)]
  | succ n ih =>
    intro i hi f hf
    obtain ⟨f', rfl⟩ : ∃ f', f = f' + 1 := ⟨f - 1, by omega⟩
    have q := ih (i + 1) (by omega) f' (by omega)
    rw [cn_s, ← Int.add_assoc] at q
    rw [f_X12_ranked_L13, lt_y (by omega) (by decide) (by omega), rd_e (by omega) (by omega)]
    by_cases hc : ν 1 (17 + (i : Int)) = 1 ∧ (i : Int) ≠ c ∧ ah_ (ν 1) (i : Int) c
    · rw [if_pos (decide_eq_true hc)] at q
      simp only [jn_e]
      rw [eq_y hc.1, eq_n (by omega) (by omega) hc.2.1, e_isAhead hg hn ⟨by omega, by omega⟩ hcc, bd_some, if_pos hc.2.2, eq_n (by decide) (by decide) (by decide)]
      exact q
    · rw [if_neg (by rw [decide_eq_false hc]; decide)] at q
      simp only [jn_e]
      have w := hT i (by omega) (by omega)
      by_cases h1 : ν 1 (17 + (i : Int)) = 1
      · rw [eq_y h1]
        by_cases h2 : (i : Int) = c
        · rw [eq_y h2]
          exact q
        · rw [eq_n (by omega) (by omega) h2, e_isAhead hg hn ⟨by omega, by omega⟩ hcc, bd_some, if_neg (fun z => hc ⟨h1, h2, z⟩), eq_y rfl]
          exact q
      rw [eq_n (by omega) (by decide) h1]
      exact q
theorem wt_ah {c : Int} (hc : 0 ≤ c ∧ c < 24) (hu : s (17 + c) = 1) : cn_ (fun o => decide (wt_ s c < wt_ s o)) 24 = cn_ (fun o => decide (s (17 + o) = 1 ∧ o ≠ c ∧ ah_ s o c)) 24 := by
  refine cn_eq 24 (fun o o0 o1 => ?_)
  have q1 := hd_b (s := s) (a := o)
  have q2 := hd_b (s := s) (a := c)
  have q3 := hl_b (s := s) (a := o)
  have q4 := hl_b (s := s) (a := c)
  have key : wt_ s c < wt_ s o ↔ (s (17 + o) = 1 ∧ o ≠ c ∧ ah_ s o c) := by
    have ec : wt_ s c = (hd_ s c * 5 + hl_ s c) * 24 + 24 - c := if_pos hu
    rw [ec]
    by_cases ho : s (17 + o) = 1
    · have eo : wt_ s o = (hd_ s o * 5 + hl_ s o) * 24 + 24 - o := if_pos ho
      rw [eo]
      by_cases hoc : o = c
      · rw [hoc]
        constructor
        · intro z
          omega
        · intro z
          exact absurd rfl z.2.1
      · unfold ah_
        constructor
        · intro z
          exact ⟨ho, hoc, by omega⟩
        · rintro ⟨-, -, z⟩
          omega
    · have eo : wt_ s o = 0 := if_neg ho
      rw [eo]
      constructor
      · intro z
        omega
      · intro z
        exact absurd z.1 ho
  by_cases h : wt_ s c < wt_ s o
  · rw [decide_eq_true h, decide_eq_true (key.mp h)]
  · rw [decide_eq_false h, decide_eq_false (fun z => h (key.mpr z))]
theorem l_ru (hT : iv_T (ν 1)) (hh : ∀ c, 0 ≤ c → c < 24 → κ 4 c = if ν 1 (17 + c) = 0 then -1 else ν 1 (41 + c)) (hw : ∀ k, 0 ≤ k → k < 24 → κ 137 k = wt_ (ν 1) k) (hg : ∀ k, 0 ≤ k → k < 96 → rg_ (ν 1 (137 + k))) (hn : ∀ k, 0 ≤ k → k < 6 → rg_ (ν 1 (11 + k))) {a : Int} (ha : rg_ a) : ∀ (n : Nat) (i : Int), 0 ≤ i → i + n = 24 → ∀ f g : Nat, n < f → n < g → ∃ r : Int, f_X7_urnAtRank_L6 a κ f i = some (r, κ) ∧ f_X12_ranked_L2 a ν g i = some r := by
  intro n
  induction n with
  | zero =>
    intro i i0 hi f g hf hg2
    obtain ⟨f', rfl⟩ : ∃ f', f = f' + 1 := ⟨f - 1, by omega⟩
    obtain ⟨g', rfl⟩ : ∃ f', g = f' + 1 := ⟨g - 1, by omega⟩
    refine ⟨-11, ?_, ?_⟩
    · rw [f_X7_urnAtRank_L6, lt_n (by omega) (by decide) (by omega)]
    · rw [f_X12_ranked_L2, lt_n (by omega) (by decide) (by omega)]
  | succ n ih =>
    intro i i0 hi f g hf hg2
    obtain ⟨f', rfl⟩ : ∃ f', f = f' + 1 := ⟨f - 1, by omega⟩
    obtain ⟨g', rfl⟩ : ∃ f', g = f' + 1 := ⟨g - 1, by omega⟩
    obtain ⟨F, hF, hF2⟩ := F_big
    obtain ⟨r, b1, b2⟩ := ih (i + 1) (by omega) (by omega) f' g' (by omega) (by omega)
    have w := hT i i0 (by omega)
    have wb := wt_b (s := ν 1) (u := i) ⟨i0, by omega⟩
    have c0 := cn_0 (fun o => decide (ν 1 (17 + o) = 1 ∧ o ≠ i ∧ ah_ (ν 1) o i)) 24
    have c1 := cn_le (fun o => decide (ν 1 (17 + o) = 1 ∧ o ≠ i ∧ ah_ (ν 1) o i)) 24
    have q := l_rk hT hg hn (c := i) ⟨i0, by omega⟩ (J := fun x3_64 => rd_ ν 1 293 (17 + i) (fun v72 => eq_ v72 1 (eq_ x3_64 a (some i) (f_X12_ranked_L2 a ν g' (i + 1))) (f_X12_ranked_L2 a ν g' (i + 1)))) (c0 := 0) 24 0 (by decide) F (by omega)
    rw [Int.zero_add, Int.zero_add, rd_e (by omega) (by omega)] at q
    have eM : f_X12_ranked_L2 a ν (g' + 1) i = eq_ (ν 1 (17 + i)) 1 (eq_ (cn_ (fun o => decide (ν 1 (17 + o) = 1 ∧ o ≠ i ∧ ah_ (ν 1) o i)) 24) a (some i) (f_X12_ranked_L2 a ν g' (i + 1))) (f_X12_ranked_L2 a ν g' (i + 1)) := by
      rw [f_X12_ranked_L2, ← hF2, lt_y (by omega) (by decide) (by omega)]
      exact q
    rw [eM, f_X7_urnAtRank_L6, lt_y (by omega) (by decide) (by omega), e_hasUrn hT hh (by omega), bd_some]
    simp only [jn_e, nm_q]
    rw [tr_0]
    by_cases u : ur9_ (ν 1) i
    · rw [if_pos u, rd_e i0 (by omega), hw i i0 (by omega), e_heavier hw (by omega), bd_some, wt_ah ⟨i0, by omega⟩ u.2, eq_y u.2]
      by_cases h : cn_ (fun o => decide (ν 1 (17 + o) = 1 ∧ o ≠ i ∧ ah_ (ν 1) o i)) 24 = a
      · rw [eq_y h, eq_y h]
        exact ⟨i, rfl, rfl⟩
      · rw [eq_n (by omega) ha h, eq_n (by omega) ha h]
        exact ⟨r, b1, b2⟩
    · rw [if_neg u, eq_n (by omega) (by decide) (fun z => u ⟨⟨i0, by omega⟩, z⟩)]
      exact ⟨r, b1, b2⟩
theorem p_ranked : pf_ranked RR_ := fun t μ ν a _ hR ha => by
  have hS := RR_skip t μ ν hR
  obtain ⟨hr, hI⟩ : hr_ μ (ν 1) ∧ iv_ (60 * ((t + 1 : Nat) : Int)) (ν 1) := hS.1
  obtain ⟨F, hF, hF2⟩ := F_big
  obtain ⟨κ, a1, a2, a3⟩ := l_wa hI.1 hr.2.2.2.1 hr.1 (iv_g1 hI) hr.2.2.2.2.2.1 (iv_g6 hI) 24 0 (by decide) (by decide) F (by omega) μ (fun _ _ => rfl) (fun k _ _ => by omega)
  obtain ⟨r, b1, b2⟩ := l_ru hI.1 (κ := κ) (by rw [a2 4 (by decide)]; exact hr.2.2.2.1) a3 (iv_g1 hI) (iv_g6 hI) ha 24 0 (by decide) (by decide) F F (by omega) (by omega)
  refine ⟨r, κ, ?_, ?_, RR_kk hR a2 (fun _ _ => rfl)⟩
  · unfold f_X11_ranked f_X7_urnAtRank f_X7_weighAll
    rw [← hF2, a1, bd_some, b1, bp_some]
  · unfold f_X12_ranked
    rw [← hF2]
    exact b2
end RK

