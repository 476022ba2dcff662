/-! questions of one urn -/
theorem t6_0 {α : Type} {b0 b1 b2 b3 b4 b5 df : Option α} : ts_ 0 [0, 1, 2, 3, 4, 5] [b0, b1, b2, b3, b4, b5] df = b0 := rfl
theorem t6_1 {α : Type} {b0 b1 b2 b3 b4 b5 df : Option α} : ts_ 1 [0, 1, 2, 3, 4, 5] [b0, b1, b2, b3, b4, b5] df = b1 := rfl
theorem t6_2 {α : Type} {b0 b1 b2 b3 b4 b5 df : Option α} : ts_ 2 [0, 1, 2, 3, 4, 5] [b0, b1, b2, b3, b4, b5] df = b2 := rfl
theorem t6_3 {α : Type} {b0 b1 b2 b3 b4 b5 df : Option α} : ts_ 3 [0, 1, 2, 3, 4, 5] [b0, b1, b2, b3, b4, b5] df = b3 := rfl
theorem t6_4 {α : Type} {b0 b1 b2 b3 b4 b5 df : Option α} : ts_ 4 [0, 1, 2, 3, 4, 5] [b0, b1, b2, b3, b4, b5] df = b4 := rfl
theorem t6_5 {α : Type} {b0 b1 b2 b3 b4 b5 df : Option α} : ts_ 5 [0, 1, 2, 3, 4, 5] [b0, b1, b2, b3, b4, b5] df = b5 := rfl
theorem t6_d {α : Type} {b0 b1 b2 b3 b4 b5 df : Option α} {a : Int} (ha : rg_ a) (h : a ≠ 0 ∧ a ≠ 1 ∧ a ≠ 2 ∧ a ≠ 3 ∧ a ≠ 4 ∧ a ≠ 5) : ts_ a [0, 1, 2, 3, 4, 5] [b0, b1, b2, b3, b4, b5] df = df := by
  unfold ts_
  rw [if_pos ha]
  simp only [tw_]
  rw [if_neg (by omega), if_neg (by omega), if_neg (by omega), if_neg (by omega), if_neg (by omega), if_neg (by omega)]
section QU
variable {μ ν : mu_T} {s : Int → Int}
/-- how many threads an urn holds -/
def hl_ (s : Int → Int) (a : Int) : Int := cn_ (fun x => decide (s (137 + (a * 4 + x)) ≠ -15)) 4
/-- how many threads and names hold an urn -/
def hd_ (s : Int → Int) (a : Int) : Int := cn_ (fun k => decide (s (137 + k) = a)) 96 + cn_ (fun k => decide (s (11 + k) = a)) 6
theorem l_tf (hr1 : ∀ k, 0 ≤ k → k < 96 → μ 1 k = s (137 + k)) (hg : ∀ k, 0 ≤ k → k < 96 → rg_ (s (137 + k))) {a : Int} (ha : 0 ≤ a ∧ a < 24) {c0 : Int} : ∀ (n i : Nat), i + n = 4 → ∀ f : Nat, n < f → f_X2_threadsFrom_L4 a μ f (c0 + cn_ (fun x => decide (s (137 + (a * 4 + x)) ≠ -15)) i) i = some (c0 + cn_ (fun x => decide (s (137 + (a * 4 + x)) ≠ -15)) 4) := by
  intro n
  induction n with
  | zero =>
    intro i hi f hf
    obtain ⟨f', rfl⟩ : ∃ f', f = f' + 1 := ⟨f - 1, by omega⟩
    have e : i = 4 := by omega
    subst e
    rw [f_X2_threadsFrom_L4, lt_n (by decide) (by decide) (by decide)]
  | succ n ih =>
    intro i hi f hf
    obtain ⟨f', rfl⟩ : ∃ f', f = f' + 1 := ⟨f - 1, by omega⟩
    have q := ih (i + 1) (by omega) f' (by omega)
    rw [cn_s, ← Int.add_assoc] at q
    rw [f_X2_threadsFrom_L4, lt_y (by omega) (by decide) (by omega), e_target hr1 (by omega) (by omega), bd_some, if_pos ⟨ha, by omega, by omega⟩, jn_e]
    by_cases hc : s (137 + (a * 4 + (i : Int))) ≠ -15
    · rw [if_pos (decide_eq_true hc)] at q
      rw [eq_n (hg _ (by omega) (by omega)) (by decide) hc]
      exact q
    · rw [if_neg (by rw [decide_eq_false hc]; decide), Int.add_zero] at q
      rw [eq_y (Decidable.not_not.mp hc)]
      exact q
theorem e_threadsFrom (hr1 : ∀ k, 0 ≤ k → k < 96 → μ 1 k = s (137 + k)) (hg : ∀ k, 0 ≤ k → k < 96 → rg_ (s (137 + k))) {a : Int} (ha : 0 ≤ a ∧ a < 24) : f_X2_threadsFrom μ a = some (hl_ s a) := by
  obtain ⟨F, hF, hF2⟩ := F_big
  unfold f_X2_threadsFrom
  rw [← hF2]
  have q := l_tf hr1 hg ha (c0 := 0) 4 0 (by decide) F (by omega)
  rw [Int.zero_add, Int.zero_add] at q
  exact q
theorem l_ho (hg : ∀ k, 0 ≤ k → k < 96 → rg_ (ν 1 (137 + k))) {a : Int} (ha : 0 ≤ a ∧ a < 24) {c0 : Int} : ∀ (n i : Nat), i + n = 4 → ∀ f : Nat, n < f → f_X12_holds_L4 a ν f (c0 + cn_ (fun x => decide (ν 1 (137 + (a * 4 + x)) ≠ -15)) i) i = some (c0 + cn_ (fun x => decide (ν 1 (137 + (a * 4 + x)) ≠ -15)) 4) := by
  intro n
  induction n with
  | zero =>
    intro i hi f hf
    obtain ⟨f', rfl⟩ : ∃ f', f = f' + 1 := ⟨f - 1, by omega⟩
    have e : i = 4 := by omega
    subst e
    rw [f_X12_holds_L4, lt_n (by decide) (by decide) (by decide)]
  | succ n ih =>
    intro i hi f hf
    obtain ⟨f', rfl⟩ : ∃ f', f = f' + 1 := ⟨f - 1, by omega⟩
    have q := ih (i + 1) (by omega) f' (by omega)
    have ei : (137 + (4 * a)) + (i : Int) = 137 + (a * 4 + i) := by omega
    rw [cn_s, ← Int.add_assoc] at q
    rw [f_X12_holds_L4, lt_y (by omega) (by decide) (by omega), e_at, bd_some, rd_e (by omega) (by omega), ei, jn_e]
    by_cases hc : ν 1 (137 + (a * 4 + (i : Int))) ≠ -15
    · rw [if_pos (decide_eq_true hc)] at q
      rw [eq_n (hg _ (by omega) (by omega)) (by decide) hc]
      exact q
    · rw [if_neg (by rw [decide_eq_false hc]; decide)] at q
      rw [eq_y (Decidable.not_not.mp hc)]
      exact q
theorem e_holds (hg : ∀ k, 0 ≤ k → k < 96 → rg_ (ν 1 (137 + k))) {a : Int} (ha : 0 ≤ a ∧ a < 24) : f_X12_holds ν a = some (hl_ (ν 1) a) := by
  obtain ⟨F, hF, hF2⟩ := F_big
  unfold f_X12_holds
  rw [← hF2]
  have q := l_ho hg ha (c0 := 0) 4 0 (by decide) F (by omega)
  rw [Int.zero_add, Int.zero_add] at q
  exact q
theorem l_hf (hr1 : ∀ k, 0 ≤ k → k < 96 → μ 1 k = s (137 + k)) (hg : ∀ k, 0 ≤ k → k < 96 → rg_ (s (137 + k))) {a : Int} (ha : rg_ a) {J : Int → Option Int} {c0 : Int} : ∀ (n i : Nat), i + n = 96 → ∀ f : Nat, n < f → f_X2_holdersOf_L4 J a μ f (c0 + cn_ (fun k => decide (s (137 + k) = a)) i) i = J (c0 + cn_ (fun k => decide (s (137 + k) = a)) 96) := by
  intro n
  induction n with
  | zero =>
    intro i hi f hf
    obtain ⟨f', rfl⟩ : ∃ f', f = f' + 1 := ⟨f - 1, by omega⟩
    have e : i = 96 := by omega
    subst e
    rw [f_X2_holdersOf_L4, lt_n (by decide) (by decide) (by decide)]
  | succ n ih =>
    intro i hi f hf
    obtain ⟨f', rfl⟩ : ∃ f', f = f' + 1 := ⟨f - 1, by omega⟩
    have q := ih (i + 1) (by omega) f' (by omega)
    rw [cn_s, ← Int.add_assoc] at q
    rw [f_X2_holdersOf_L4, lt_y (by omega) (by decide) (by omega), rd_e (by omega) (by omega), hr1 _ (by omega) (by omega), jn_e]
    by_cases hc : s (137 + (i : Int)) = a
    · rw [if_pos (decide_eq_true hc)] at q
      rw [eq_y hc]
      exact q
    · rw [if_neg (by rw [decide_eq_false hc]; decide), Int.add_zero] at q
      rw [eq_n (hg _ (by omega) (by omega)) ha hc]
      exact q
theorem l_hn (hr6 : ∀ k, 0 ≤ k → k < 6 → μ 6 k = s (11 + k)) (hn : ∀ k, 0 ≤ k → k < 6 → rg_ (s (11 + k))) {a : Int} (ha : rg_ a) {c0 : Int} : ∀ (n i : Nat), i + n = 6 → ∀ f : Nat, n < f → f_X2_holdersOf_L34 a μ f (c0 + cn_ (fun k => decide (s (11 + k) = a)) i) i = some (c0 + cn_ (fun k => decide (s (11 + k) = a)) 6) := by
  intro n
  induction n with
  | zero =>
    intro i hi f hf
    obtain ⟨f', rfl⟩ : ∃ f', f = f' + 1 := ⟨f - 1, by omega⟩
    have e : i = 6 := by omega
    subst e
    rw [f_X2_holdersOf_L34, lt_n (by decide) (by decide) (by decide)]
  | succ n ih =>
    intro i hi f hf
    obtain ⟨f', rfl⟩ : ∃ f', f = f' + 1 := ⟨f - 1, by omega⟩
    have q := ih (i + 1) (by omega) f' (by omega)
    rw [cn_s, ← Int.add_assoc] at q
    rw [f_X2_holdersOf_L34, lt_y (by omega) (by decide) (by omega), rd_e (by omega) (by omega), hr6 _ (by omega) (by omega), jn_e]
    by_cases hc : s (11 + (i : Int)) = a
    · rw [if_pos (decide_eq_true hc)] at q
      rw [eq_y hc]
      exact q
    · rw [if_neg (by rw [decide_eq_false hc]; decide), Int.add_zero] at q
      rw [eq_n (hn _ (by omega) (by omega)) ha hc]
      exact q
theorem e_holdersOf (hr1 : ∀ k, 0 ≤ k → k < 96 → μ 1 k = s (137 + k)) (hg : ∀ k, 0 ≤ k → k < 96 → rg_ (s (137 + k))) (hr6 : ∀ k, 0 ≤ k → k < 6 → μ 6 k = s (11 + k)) (hn : ∀ k, 0 ≤ k → k < 6 → rg_ (s (11 + k))) {a : Int} (ha : rg_ a) : f_X2_holdersOf μ a = some (hd_ s a) := by
  obtain ⟨F, hF, hF2⟩ := F_big
  unfold f_X2_holdersOf
  rw [← hF2, jn_e]
  have q := l_hf hr1 hg ha (J := fun x2_32 => f_X2_holdersOf_L34 a μ F x2_32 0) (c0 := 0) 96 0 (by decide) F (by omega)
  rw [Int.zero_add, Int.zero_add] at q
  refine q.trans ?_
  have q2 := l_hn hr6 hn ha (c0 := cn_ (fun k => decide (s (137 + k) = a)) 96) 6 0 (by decide) F (by omega)
  exact (congrArg (fun z => f_X2_holdersOf_L34 a μ F z 0) (Int.add_zero _).symm).trans q2
theorem l_he (hg : ∀ k, 0 ≤ k → k < 96 → rg_ (ν 1 (137 + k))) {a : Int} (ha : rg_ a) {J : Int → Option Int} {c0 : Int} : ∀ (n i : Nat), i + n = 96 → ∀ f : Nat, n < f → f_X12_held_L4 J a ν f (c0 + cn_ (fun k => decide (ν 1 (137 + k) = a)) i) i = J (c0 + cn_ (fun k => decide (ν 1 (137 + k) = a)) 96) := by
  intro n
  induction n with
  | zero =>
    intro i hi f hf
    obtain ⟨f', rfl⟩ : ∃ f', f = f' + 1 := ⟨f - 1, by omega⟩
    have e : i = 96 := by omega
    subst e
    rw [f_X12_held_L4, lt_n (by decide) (by decide) (by decide)]
  | succ n ih =>
    intro i hi f hf
    obtain ⟨f', rfl⟩ : ∃ f', f = f' + 1 := ⟨f - 1, by omega⟩
    have q := ih (i + 1) (by omega) f' (by omega)
    rw [cn_s, ← Int.add_assoc] at q
    rw [f_X12_held_L4, lt_y (by omega) (by decide) (by omega), rd_e (by omega) (by omega), jn_e]
    by_cases hc : ν 1 (137 + (i : Int)) = a
    · rw [if_pos (decide_eq_true hc)] at q
      rw [eq_y hc]
      exact q
    · rw [if_neg (by rw [decide_eq_false hc]; decide)] at q
      rw [eq_n (hg _ (by omega) (by omega)) ha hc]
      exact q
theorem l_hm (hn : ∀ k, 0 ≤ k → k < 6 → rg_ (ν 1 (11 + k))) {a : Int} (ha : rg_ a) {c0 : Int} : ∀ (n i : Nat), i + n = 6 → ∀ f : Nat, n < f → f_X12_held_L40 a ν f (c0 + cn_ (fun k => decide (ν 1 (11 + k) = a)) i) i = some (c0 + cn_ (fun k => decide (ν 1 (11 + k) = a)) 6) := by
  intro n
  induction n with
  | zero =>
    intro i hi f hf
    obtain ⟨f', rfl⟩ : ∃ f', f = f' + 1 := ⟨f - 1, by omega⟩
    have e : i = 6 := by omega
    subst e
    rw [f_X12_held_L40, lt_n (by decide) (by decide) (by decide)]
  | succ n ih =>
    intro i hi f hf
    obtain ⟨f', rfl⟩ : ∃ f', f = f' + 1 := ⟨f - 1, by omega⟩
    have q := ih (i + 1) (by omega) f' (by omega)
    rw [cn_s, ← Int.add_assoc] at q
    rw [f_X12_held_L40, lt_y (by omega) (by decide) (by omega), rd_e (by omega) (by omega), jn_e]
    by_cases hc : ν 1 (11 + (i : Int)) = a
    · rw [if_pos (decide_eq_true hc)] at q
      rw [eq_y hc]
      exact q
    · rw [if_neg (by rw [decide_eq_false hc]; decide)] at q
      rw [eq_n (hn _ (by omega) (by omega)) ha hc]
      exact q
theorem e_held (hg : ∀ k, 0 ≤ k → k < 96 → rg_ (ν 1 (137 + k))) (hn : ∀ k, 0 ≤ k → k < 6 → rg_ (ν 1 (11 + k))) {a : Int} (ha : rg_ a) : f_X12_held ν a = some (hd_ (ν 1) a) := by
  obtain ⟨F, hF, hF2⟩ := F_big
  unfold f_X12_held
  rw [← hF2, jn_e]
  have q := l_he hg ha (J := fun x2_38 => f_X12_held_L40 a ν F x2_38 0) (c0 := 0) 96 0 (by decide) F (by omega)
  rw [Int.zero_add, Int.zero_add] at q
  refine q.trans ?_
  have q2 := l_hm hn ha (c0 := cn_ (fun k => decide (ν 1 (137 + k) = a)) 96) 6 0 (by decide) F (by omega)
  exact (congrArg (fun z => f_X12_held_L40 a ν F z 0) (Int.add_zero _).symm).trans q2
theorem iv_g1 {t : Int} (hI : iv_ t s) : ∀ k, 0 ≤ k → k < 96 → rg_ (s (137 + k)) := fun k a b => (ft_r (hI.2.2.1 k a b)).2
theorem iv_g6 {t : Int} (hI : iv_ t s) : ∀ k, 0 ≤ k → k < 6 → rg_ (s (11 + k)) := fun k a b => (ft_r (hI.2.2.2.2.1 k a b).1).2
theorem p_urnOf : pf_urnOf RR_ := fun t μ ν a b _ hR ha hb => by
  have hS := RR_skip t μ ν hR
  obtain ⟨hr, hI⟩ : hr_ μ (ν 1) ∧ iv_ (60 * ((t + 1 : Nat) : Int)) (ν 1) := hS.1
  obtain ⟨r1, r2, r3, r4, r5, r6, r7, ⟨r8, r9⟩, ⟨r10, r11⟩, r12, r13, r14, r15, r16, r17, r18, r19⟩ := hr
  unfold f_X11_urnOf f_X12_urnOf
  rw [e_hasUrn hI.1 r4 ha, bd_some, tr_0, e_isUrn hI.1 ha, bd_some, tr_0]
  by_cases u : ur9_ (ν 1) a
  · have a01 := u.1
    rw [if_pos u, if_pos u]
    by_cases b0 : b = 0
    · subst b0
      rw [t6_0, t6_0]
      refine ⟨ν 1 (41 + a), ?_, ?_, hS⟩
      · rw [rd_e a01.1 (by omega), r4 a a01.1 a01.2, if_neg (by have := u.2; omega)]
      · rw [rd_e (by omega) (by omega)]
    by_cases b1 : b = 1
    · subst b1
      rw [t6_1, t6_1]
      refine ⟨ν 1 (65 + a), ?_, ?_, hS⟩
      · rw [rd_e a01.1 (by omega), r3 a a01.1 a01.2]
      · rw [rd_e (by omega) (by omega)]
    by_cases b2 : b = 2
    · subst b2
      rw [t6_2, t6_2]
      refine ⟨hl_ (ν 1) a, ?_, ?_, hS⟩
      · rw [e_threadsFrom r1 (iv_g1 hI) a01, bd_some]
      · rw [e_holds (iv_g1 hI) a01, bd_some]
    by_cases b3 : b = 3
    · subst b3
      rw [t6_3, t6_3]
      refine ⟨hd_ (ν 1) a, ?_, ?_, hS⟩
      · rw [e_holdersOf r1 (iv_g1 hI) r6 (iv_g6 hI) ha, bd_some]
      · rw [e_held (iv_g1 hI) (iv_g6 hI) ha, bd_some]
    by_cases b4 : b = 4
    · subst b4
      rw [t6_4, t6_4]
      refine ⟨ν 1 (113 + a), ?_, ?_, hS⟩
      · rw [rd_e a01.1 (by omega), r2 a a01.1 a01.2]
      · rw [rd_e (by omega) (by omega)]
    by_cases b5 : b = 5
    · subst b5
      rw [t6_5, t6_5]
      refine ⟨ν 1 (89 + a), ?_, ?_, hS⟩
      · rw [rd_e a01.1 (by omega), r5 a a01.1 a01.2 u.2]
      · rw [rd_e (by omega) (by omega)]
    rw [t6_d hb ⟨b0, b1, b2, b3, b4, b5⟩, t6_d hb ⟨b0, b1, b2, b3, b4, b5⟩]
    exact ⟨-12, rfl, rfl, hS⟩
  · rw [if_neg u, if_neg u]
    exact ⟨-11, rfl, rfl, hS⟩
theorem p_threadOf : pf_threadOf RR_ := fun t μ ν a b _ hR ha hb => by
  have hS := RR_skip t μ ν hR
  obtain ⟨hr, hI⟩ : hr_ μ (ν 1) ∧ iv_ (60 * ((t + 1 : Nat) : Int)) (ν 1) := hS.1
  unfold f_X11_threadOf f_X12_threadOf
  rw [e_hasUrn hI.1 hr.2.2.2.1 ha, bd_some, tr_0, e_isUrn hI.1 ha, bd_some, tr_0]
  by_cases u : ur9_ (ν 1) a
  · have a01 := u.1
    rw [if_pos u, if_pos u, e_isSlot hb, bd_some, tr_0, e_in hb (by decide) (by decide), bd_some, tr_0]
    by_cases v : 0 ≤ b ∧ b < 4
    · have ei : (137 + (4 * a)) + b = 137 + (a * 4 + b) := by omega
      rw [if_pos v, if_pos (show 0 ≤ b ∧ b ≤ 3 by omega), e_target hr.1 ha hb, bd_some, if_pos ⟨a01, v⟩, e_at, bd_some, rd_e (by omega) (by omega), ei]
      exact ⟨_, rfl, rfl, hS⟩
    · rw [if_neg v, if_neg (show ¬ (0 ≤ b ∧ b ≤ 3) by omega)]
      exact ⟨_, rfl, rfl, hS⟩
  · rw [if_neg u, if_neg u]
    exact ⟨_, rfl, rfl, hS⟩
theorem p_named : pf_named RR_ := fun t μ ν a _ hR ha => by
  have hS := RR_skip t μ ν hR
  obtain ⟨hr, hI⟩ : hr_ μ (ν 1) ∧ iv_ (60 * ((t + 1 : Nat) : Int)) (ν 1) := hS.1
  unfold f_X11_named f_X12_named
  rw [e_isName ha, bd_some, tr_0, e_in ha (by decide) (by decide), bd_some, tr_0]
  by_cases v : 0 ≤ a ∧ a < 6
  · rw [if_pos v, if_pos (show 0 ≤ a ∧ a ≤ 5 by omega), rd_e v.1 (by omega), rd_e (by omega) (by omega), hr.2.2.2.2.2.1 a v.1 v.2]
    exact ⟨_, rfl, rfl, hS⟩
  · rw [if_neg v, if_neg (show ¬ (0 ≤ a ∧ a ≤ 5) by omega)]
    exact ⟨_, rfl, rfl, hS⟩
theorem p_due : pf_due RR_ := fun t μ ν a _ hR ha => by
  have hS := RR_skip t μ ν hR
  obtain ⟨hr, hI⟩ : hr_ μ (ν 1) ∧ iv_ (60 * ((t + 1 : Nat) : Int)) (ν 1) := hS.1
  have hle := iv_le hI
  have e10 := hr.2.2.2.2.2.2.2.2.1
  unfold f_X11_due f_X12_due f_X9_at_o10
  rw [nm_q, e10.1, rd_e (μ := ν) (by decide) (by decide), e_in ha (by decide) (by omega), bd_some, tr_0, lt_if ha (by decide), lt_if ha (by omega), lt_if ha (by decide)]
  by_cases v : 0 ≤ a ∧ a ≤ ν 1 9 - 1
  · rw [if_neg (show ¬ a < 0 by omega), if_pos (show a < ν 1 9 by omega), if_pos (show a < 24 by omega), if_pos v, rd_e v.1 (by omega), rd_e (by omega) (by omega), e10.2 a v.1 (by omega), bd_some]
    exact ⟨_, rfl, rfl, hS⟩
  · rw [if_neg v]
    refine ⟨-11, ?_, rfl, hS⟩
    by_cases v0 : a < 0
    · rw [if_pos v0, bd_some]
    · rw [if_neg v0, if_neg (by omega), bd_some]
theorem p_grey : pf_grey RR_ := fun t μ ν a _ hR ha => by
  have hS := RR_skip t μ ν hR
  obtain ⟨hr, hI⟩ : hr_ μ (ν 1) ∧ iv_ (60 * ((t + 1 : Nat) : Int)) (ν 1) := hS.1
  have hle := iv_le hI
  have e10 := hr.2.2.2.2.2.2.2.1
  unfold f_X11_grey f_X12_grey f_X9_at
  rw [nm_q, e10.1, rd_e (μ := ν) (by decide) (by decide), e_in ha (by decide) (by omega), bd_some, tr_0, lt_if ha (by decide), lt_if ha (by omega), lt_if ha (by decide)]
  by_cases v : 0 ≤ a ∧ a ≤ ν 1 8 - 1
  · rw [if_neg (show ¬ a < 0 by omega), if_pos (show a < ν 1 8 by omega), if_pos (show a < 24 by omega), if_pos v, rd_e v.1 (by omega), rd_e (by omega) (by omega), e10.2 a v.1 (by omega), bd_some]
    exact ⟨_, rfl, rfl, hS⟩
  · rw [if_neg v]
    refine ⟨-11, ?_, rfl, hS⟩
    by_cases v0 : a < 0
    · rw [if_pos v0, bd_some]
    · rw [if_neg v0, if_neg (by omega), bd_some]
theorem p_freed : pf_freed RR_ := fun t μ ν a ht hR ha => by
  have hS := RR_skip t μ ν hR
  obtain ⟨hr, hI⟩ : hr_ μ (ν 1) ∧ iv_ (60 * ((t + 1 : Nat) : Int)) (ν 1) := hS.1
  have hle := iv_le hI
  have r7 := hr.2.2.2.2.2.2.1
  have r16 : μ 0 13 = ν 1 4 := hr.2.2.2.2.2.2.2.2.2.2.2.2.2.1
  obtain ⟨l0, l1, l2⟩ := hI.2.2.2.2.2.2.2.1
  have h4b : ν 1 4 ≤ 1000000 := by
    have q := hI.2.2.2.2.2.2.2.2
    have w := cn_0 (fun c => decide (ν 1 (17 + c) = 1)) 24
    have q1 := q.1
    have q2 := q.2
    omega
  unfold f_X11_freed f_X12_freed f_X2_freedLate
  rw [nm_q, r16, rd_e (by decide) (by decide), e_in ha (by decide) (by omega), bd_some, tr_0, lt_if ha (by decide), lt_if ha (by decide), lt_if ha (by omega)]
  by_cases v : 0 ≤ a ∧ a ≤ ν 1 10 - 1
  · rw [if_neg (show ¬ a < 0 by omega), if_pos (show a < 12 by omega), if_pos (show a < ν 1 4 by omega), if_pos v, nm_q, rd_e (by omega) (by omega), rm_e ⟨by omega, by omega⟩ (by decide) (by omega) (by decide), rd_e (by omega) (by omega), bd_some]
    exact ⟨_, rfl, by rw [r7 a v.1 (by omega)], hS⟩
  · rw [if_neg v]
    refine ⟨-11, ?_, rfl, hS⟩
    by_cases v0 : a < 0
    · rw [if_pos v0, bd_some]
    · rw [if_neg v0]
      by_cases v1 : a < 12
      · rw [if_pos v1, if_neg (by omega), bd_some]
      · rw [if_neg v1, bd_some]
end QU
