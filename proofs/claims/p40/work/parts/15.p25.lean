/-! the program's paths -/
section PG
variable {μ ν : mu_T} {s : Int → Int}
/-- a thread from b to k -/
def ej_ (s : Int → Int) (b k : Int) : Bool := ex_ (fun j => decide (k = s (137 + (b * 4 + j)))) 4
theorem e_bit {a : Int} (ha : a = -15 ∨ (0 ≤ a ∧ a < 24)) : ∃ x, f_X7_bit μ a = some x ∧ mk_ x (fun k => decide (k = a)) := by
  unfold f_X7_bit
  rw [e_isCell (by omega), bd_some, tr_0]
  by_cases h : 0 ≤ a ∧ a < 24
  · rw [if_pos h]
    exact ⟨_, rfl, mk_s h⟩
  · rw [if_neg h]
    exact ⟨_, rfl, mk_e (fun k k0 k1 => (decide_eq_false (by omega)).symm) mk_0⟩
theorem e_isIn {x c : Int} {p : Int → Bool} (hx : mk_ x p) (hc : 0 ≤ c ∧ c < 24) : f_X7_isIn μ x c = some (if p c = true then 1 else 0) := by
  obtain ⟨y, e, hy⟩ := e_bit (μ := μ) (Or.inr hc)
  unfold f_X7_isIn
  rw [e, bd_some]
  have hz := mk_z (mk_an hx hy)
  have hr : rg_ (an_ x y) := (mk_an hx hy).1
  by_cases h : p c = true
  · rw [if_pos h, eq_n hr (by decide) (fun q => ?_)]
    have w := hz.mp q c hc.1 hc.2
    rw [h, decide_eq_true rfl] at w
    exact absurd w (by decide)
  · rw [if_neg h, eq_y (hz.mpr (fun k k0 k1 => ?_))]
    by_cases hk : k = c
    · rw [hk, Bool.eq_false_iff.mpr h]
      rfl
    · rw [decide_eq_false hk, Bool.and_false]
theorem l_rr (hT : iv_T s) (hh : ∀ c, 0 ≤ c → c < 24 → μ 4 c = if s (17 + c) = 0 then -1 else s (41 + c)) (h3 : ∀ c, 0 ≤ c → c < 24 → μ 3 c = s (65 + c)) {r : Int} (hr : rg_ r) : ∀ (n i : Nat), i + n = 24 → ∀ f : Nat, n < f → ∀ x, mk_ x (fun k => ex_ (fun j => decide (s (17 + j) = 1 ∧ s (65 + j) = r) && decide (k = j)) i) → ∃ y, f_X7_rootsByRite_L4 r μ f x i = some y ∧ mk_ y (fun k => ex_ (fun j => decide (s (17 + j) = 1 ∧ s (65 + j) = r) && decide (k = j)) 24) := by
  intro n
  induction n with
  | zero =>
    intro i hi f hf x hx
    obtain ⟨f', rfl⟩ : ∃ f', f = f' + 1 := ⟨f - 1, by omega⟩
    have e : i = 24 := by omega
    subst e
    refine ⟨x, ?_, hx⟩
    rw [f_X7_rootsByRite_L4, lt_n (by decide) (by decide) (by decide)]
  | succ n ih =>
    intro i hi f hf x hx
    obtain ⟨f', rfl⟩ : ∃ f', f = f' + 1 := ⟨f - 1, by omega⟩
    have w := hT i (by omega) (by omega)
    rw [f_X7_rootsByRite_L4, lt_y (by omega) (by decide) (by omega), e_hasUrn hT hh (by omega), bd_some]
    simp only [jn_e, nm_q]
    rw [tr_0]
    have stay : ¬ (s (17 + (i : Int)) = 1 ∧ s (65 + (i : Int)) = r) → ∃ y, f_X7_rootsByRite_L4 r μ f' x ((i : Int) + 1) = some y ∧ mk_ y (fun k => ex_ (fun j => decide (s (17 + j) = 1 ∧ s (65 + j) = r) && decide (k = j)) 24) := fun hn => by
      have q := ih (i + 1) (by omega) f' (by omega) x (mk_e (fun k k0 k1 => by
        rw [ex_s, decide_eq_false hn, Bool.false_and, Bool.or_false]) hx)
      exact q
    by_cases u : ur9_ s (i : Int)
    · rw [if_pos u, rd_e (by omega) (by omega), h3 i (by omega) (by omega)]
      by_cases v : s (65 + (i : Int)) = r
      · obtain ⟨z, e1, e2⟩ := e_bit (μ := μ) (a := (i : Int)) (Or.inr ⟨by omega, by omega⟩)
        rw [eq_y v, e1, bd_some]
        have q := ih (i + 1) (by omega) f' (by omega) (or_ x z) (mk_e (fun k k0 k1 => by
          rw [ex_s, decide_eq_true (show s (17 + (i : Int)) = 1 ∧ s (65 + (i : Int)) = r from ⟨u.2, v⟩), Bool.true_and]) (mk_or hx e2))
        exact q
      · rw [eq_n (by omega) hr v]
        exact stay (fun z => v z.2)
    · rw [if_neg u]
      exact stay (fun z => u ⟨⟨by omega, by omega⟩, z.1⟩)
theorem ex_one {p : Int → Bool} {k : Int} {n : Nat} (k0 : 0 ≤ k) (k1 : k < n) : ex_ (fun j => p j && decide (k = j)) n = p k := by
  refine bo_i ⟨fun h => ?_, fun h => ?_⟩
  · obtain ⟨b, b0, b1, b2⟩ := ex_i.mp h
    rw [Bool.and_eq_true] at b2
    rw [of_decide_eq_true b2.2]
    exact b2.1
  · exact ex_i.mpr ⟨k, k0, k1, by rw [h, decide_eq_true rfl]; rfl⟩
theorem e_byRite (hT : iv_T s) (hh : ∀ c, 0 ≤ c → c < 24 → μ 4 c = if s (17 + c) = 0 then -1 else s (41 + c)) (h3 : ∀ c, 0 ≤ c → c < 24 → μ 3 c = s (65 + c)) {r : Int} (hr : rg_ r) : ∃ y, f_X7_rootsByRite μ r = some y ∧ mk_ y (fun k => decide (s (17 + k) = 1 ∧ s (65 + k) = r)) := by
  obtain ⟨F, hF, hF2⟩ := F_big
  unfold f_X7_rootsByRite
  rw [← hF2]
  obtain ⟨y, e1, e2⟩ := l_rr hT hh h3 hr 24 0 (by decide) F (by omega) 0 mk_0
  exact ⟨y, e1, mk_e (fun k k0 k1 => ex_one k0 k1) e2⟩
/-- what is held from outside, one name left out -/
def rt_ (s : Int → Int) (a k : Int) : Bool := decide (s (17 + k) = 1 ∧ s (65 + k) = 2) || ex_ (fun j => !decide (j = a) && decide (k = s (11 + j))) 6
theorem l_ro (h6 : ∀ k, 0 ≤ k → k < 6 → μ 6 k = s (11 + k)) (hn : ∀ k, 0 ≤ k → k < 6 → s (11 + k) = -15 ∨ (0 ≤ s (11 + k) ∧ s (11 + k) < 24)) {a : Int} (ha : rg_ a) {b : Int → Bool} : ∀ (n i : Nat), i + n = 6 → ∀ f : Nat, n < f → ∀ x, mk_ x (fun k => b k || ex_ (fun j => !decide (j = a) && decide (k = s (11 + j))) i) → ∃ y, f_X7_roots_L8 a μ f x i = some y ∧ mk_ y (fun k => b k || ex_ (fun j => !decide (j = a) && decide (k = s (11 + j))) 6) := by
  intro n
  induction n with
  | zero =>
    intro i hi f hf x hx
    obtain ⟨f', rfl⟩ : ∃ f', f = f' + 1 := ⟨f - 1, by omega⟩
    have e : i = 6 := by omega
    subst e
    refine ⟨x, ?_, hx⟩
    rw [f_X7_roots_L8, lt_n (by decide) (by decide) (by decide)]
  | succ n ih =>
    intro i hi f hf x hx
    obtain ⟨f', rfl⟩ : ∃ f', f = f' + 1 := ⟨f - 1, by omega⟩
    rw [f_X7_roots_L8, lt_y (by omega) (by decide) (by omega)]
    simp only [jn_e, nm_q]
    by_cases v : (i : Int) = a
    · rw [eq_y v]
      have q := ih (i + 1) (by omega) f' (by omega) x (mk_e (fun k k0 k1 => by
        rw [ex_s, decide_eq_true v, Bool.not_true, Bool.false_and, Bool.or_false]) hx)
      exact q
    · obtain ⟨z, e1, e2⟩ := e_bit (μ := μ) (hn i (by omega) (by omega))
      rw [eq_n (by omega) ha v, rd_e (by omega) (by omega), h6 i (by omega) (by omega), e1, bd_some]
      have q := ih (i + 1) (by omega) f' (by omega) (or_ x z) (mk_e (fun k k0 k1 => by
        rw [ex_s, decide_eq_false v, Bool.not_false, Bool.true_and, Bool.or_assoc]) (mk_or hx e2))
      exact q
theorem e_roots (hT : iv_T s) (hh : ∀ c, 0 ≤ c → c < 24 → μ 4 c = if s (17 + c) = 0 then -1 else s (41 + c)) (h3 : ∀ c, 0 ≤ c → c < 24 → μ 3 c = s (65 + c)) (h6 : ∀ k, 0 ≤ k → k < 6 → μ 6 k = s (11 + k)) (hn : ∀ k, 0 ≤ k → k < 6 → s (11 + k) = -15 ∨ (0 ≤ s (11 + k) ∧ s (11 + k) < 24)) {a : Int} (ha : rg_ a) : ∃ y, f_X7_roots μ a = some y ∧ mk_ y (rt_ s a) := by
  obtain ⟨F, hF, hF2⟩ := F_big
  unfold f_X7_roots
  obtain ⟨x, e1, e2⟩ := e_byRite hT hh h3 (r := 2) (by decide)
  rw [← hF2, e1, bd_some]
  exact l_ro h6 hn ha 6 0 (by decide) F (by omega) x (mk_e (fun k k0 k1 => (Bool.or_false _).symm) e2)
theorem l_tg (h1 : ∀ k, 0 ≤ k → k < 96 → μ 1 k = s (137 + k)) (ht : ∀ k, 0 ≤ k → k < 96 → s (137 + k) = -15 ∨ (0 ≤ s (137 + k) ∧ s (137 + k) < 24)) {a : Int} (ha : 0 ≤ a ∧ a < 24) : ∀ (n i : Nat), i + n = 4 → ∀ f : Nat, n < f → ∀ x, mk_ x (fun k => ex_ (fun j => decide (k = s (137 + (a * 4 + j)))) i) → ∃ y, f_X7_targets_L4 a μ f x i = some y ∧ mk_ y (ej_ s a) := by
  intro n
  induction n with
  | zero =>
    intro i hi f hf x hx
    obtain ⟨f', rfl⟩ : ∃ f', f = f' + 1 := ⟨f - 1, by omega⟩
    have e : i = 4 := by omega
    subst e
    refine ⟨x, ?_, hx⟩
    rw [f_X7_targets_L4, lt_n (by decide) (by decide) (by decide)]
  | succ n ih =>
    intro i hi f hf x hx
    obtain ⟨f', rfl⟩ : ∃ f', f = f' + 1 := ⟨f - 1, by omega⟩
    obtain ⟨z, e1, e2⟩ := e_bit (μ := μ) (ht (a * 4 + i) (by omega) (by omega))
    rw [f_X7_targets_L4, lt_y (by omega) (by decide) (by omega), e_target h1 (by omega) (by omega), bd_some, if_pos ⟨ha, by omega, by omega⟩, e1, bd_some, nm_q, nm_q]
    have q := ih (i + 1) (by omega) f' (by omega) (or_ x z) (mk_e (fun k k0 k1 => by
      rw [ex_s]) (mk_or hx e2))
    exact q
theorem e_targets (h1 : ∀ k, 0 ≤ k → k < 96 → μ 1 k = s (137 + k)) (ht : ∀ k, 0 ≤ k → k < 96 → s (137 + k) = -15 ∨ (0 ≤ s (137 + k) ∧ s (137 + k) < 24)) {a : Int} (ha : 0 ≤ a ∧ a < 24) : ∃ y, f_X7_targets μ a = some y ∧ mk_ y (ej_ s a) := by
  obtain ⟨F, hF, hF2⟩ := F_big
  unfold f_X7_targets
  rw [← hF2]
  exact l_tg h1 ht ha 4 0 (by decide) F (by omega) 0 mk_0
theorem l_ta (h1 : ∀ k, 0 ≤ k → k < 96 → μ 1 k = s (137 + k)) (ht : ∀ k, 0 ≤ k → k < 96 → s (137 + k) = -15 ∨ (0 ≤ s (137 + k) ∧ s (137 + k) < 24)) {o : Int} {p : Int → Bool} (ho : mk_ o p) : ∀ (n i : Nat), i + n = 24 → ∀ f : Nat, n < f → ∀ x, mk_ x (fun k => ex_ (fun b => p b && ej_ s b k) i) → ∃ y, f_X7_targetsOfAll_L4 o μ f x i = some y ∧ mk_ y (fun k => ex_ (fun b => p b && ej_ s b k) 24) := by
  intro n
  induction n with
  | zero =>
    intro i hi f hf x hx
    obtain ⟨f', rfl⟩ : ∃ f', f = f' + 1 := ⟨f - 1, by omega⟩
    have e : i = 24 := by omega
    subst e
    refine ⟨x, ?_, hx⟩
    rw [f_X7_targetsOfAll_L4, lt_n (by decide) (by decide) (by decide)]
  | succ n ih =>
    intro i hi f hf x hx
    obtain ⟨f', rfl⟩ : ∃ f', f = f' + 1 := ⟨f - 1, by omega⟩
    rw [f_X7_targetsOfAll_L4, lt_y (by omega) (by decide) (by omega), e_isIn ho ⟨by omega, by omega⟩, bd_some]
    simp only [jn_e, nm_q]
    by_cases v : p (i : Int) = true
    · obtain ⟨z, e1, e2⟩ := e_targets (μ := μ) h1 ht (a := (i : Int)) ⟨by omega, by omega⟩
      rw [if_pos v, eq_n (by decide) (by decide) (by decide), e1, bd_some]
      have q := ih (i + 1) (by omega) f' (by omega) (or_ x z) (mk_e (fun k k0 k1 => by
        rw [ex_s, v, Bool.true_and]) (mk_or hx e2))
      exact q
    · rw [if_neg v, eq_y rfl]
      have q := ih (i + 1) (by omega) f' (by omega) x (mk_e (fun k k0 k1 => by
        rw [ex_s, Bool.eq_false_iff.mpr v, Bool.false_and, Bool.or_false]) hx)
      exact q
theorem e_all (h1 : ∀ k, 0 ≤ k → k < 96 → μ 1 k = s (137 + k)) (ht : ∀ k, 0 ≤ k → k < 96 → s (137 + k) = -15 ∨ (0 ≤ s (137 + k) ∧ s (137 + k) < 24)) {o : Int} {p : Int → Bool} (ho : mk_ o p) : ∃ y, f_X7_targetsOfAll μ o = some y ∧ mk_ y (fun k => ex_ (fun b => p b && ej_ s b k) 24) := by
  obtain ⟨F, hF, hF2⟩ := F_big
  unfold f_X7_targetsOfAll
  rw [← hF2]
  exact l_ta h1 ht ho 24 0 (by decide) F (by omega) 0 mk_0
/-- one step out, with what is new -/
theorem rc_new {r p : Int → Bool} {e : Int → Int → Bool} {i : Nat} (hp : ∀ b, 0 ≤ b → b < 24 → p b = true → rq_ r e i b = true) (hH : ∀ b k, (0 ≤ b ∧ b < 24) → rq_ r e i b = true → e b k = true → rq_ r e i k = true ∨ p b = true) (k : Int) : (rq_ r e i k || (ex_ (fun b => p b && e b k) 24 && !rq_ r e i k)) = rq_ r e (i + 1) k := by
  refine bo_i ⟨fun h => ?_, fun h => ?_⟩
  · rw [Bool.or_eq_true, Bool.and_eq_true] at h
    rcases h with h | ⟨h, -⟩
    · exact rc_up h
    · obtain ⟨b, b0, b1, b2⟩ := ex_i.mp h
      rw [Bool.and_eq_true] at b2
      exact rc_st ⟨b0, b1⟩ (hp b b0 b1 b2.1) b2.2
  · by_cases hk : rq_ r e i k = true
    · rw [hk, Bool.true_or]
    · rcases rc_or h with h | ⟨b, b01, b2, b3⟩
      · exact absurd h hk
      · rcases hH b k b01 b2 b3 with z | z
        · exact absurd z hk
        · rw [Bool.eq_false_iff.mpr hk, Bool.not_false, Bool.and_true, Bool.false_or]
          exact ex_i.mpr ⟨b, b01.1, b01.2, by rw [z, b3]; rfl⟩
theorem rc_nH {r p : Int → Bool} {e : Int → Int → Bool} {i : Nat} (hp : ∀ b, 0 ≤ b → b < 24 → p b = true → rq_ r e i b = true) (hH : ∀ b k, (0 ≤ b ∧ b < 24) → rq_ r e i b = true → e b k = true → rq_ r e i k = true ∨ p b = true) : (∀ b, 0 ≤ b → b < 24 → (ex_ (fun c => p c && e c b) 24 && !rq_ r e i b) = true → rq_ r e (i + 1) b = true) ∧ (∀ b k, (0 ≤ b ∧ b < 24) → rq_ r e (i + 1) b = true → e b k = true → rq_ r e (i + 1) k = true ∨ (ex_ (fun c => p c && e c b) 24 && !rq_ r e i b) = true) := by
  refine ⟨fun b b0 b1 h => ?_, fun b k b01 h1 h2 => ?_⟩
  · rw [← rc_new hp hH b, h, Bool.or_true]
  · by_cases hb : rq_ r e i b = true
    · exact Or.inl (rc_st b01 hb h2)
    · rw [← rc_new hp hH b, Bool.eq_false_iff.mpr hb, Bool.false_or] at h1
      rw [Bool.eq_false_iff.mpr hb]
      exact Or.inr h1
/-- nothing is new: that is all -/
theorem rc_end {r p : Int → Bool} {e : Int → Int → Bool} {i : Nat} (hH : ∀ b k, (0 ≤ b ∧ b < 24) → rq_ r e i b = true → e b k = true → rq_ r e i k = true ∨ p b = true) (h0 : ∀ b, 0 ≤ b → b < 24 → p b = false) : ∀ m, i ≤ m → ∀ c, 0 ≤ c → c < 24 → rq_ r e m c = rq_ r e i c := by
  refine rc_fix (fun c c0 c1 => bo_i ⟨fun h => ?_, fun h => rc_up h⟩)
  rcases rc_or h with h | ⟨b, b01, b2, b3⟩
  · exact h
  · rcases hH b c b01 b2 b3 with z | z
    · exact z
    · rw [h0 b b01.1 b01.2] at z
      exact absurd z (by decide)
theorem l_rf (h1 : ∀ k, 0 ≤ k → k < 96 → μ 1 k = s (137 + k)) (ht : ∀ k, 0 ≤ k → k < 96 → s (137 + k) = -15 ∨ (0 ≤ s (137 + k) ∧ s (137 + k) < 24)) {r : Int → Bool} : ∀ (n i : Nat), i + n = 24 → ∀ f : Nat, n < f → ∀ (x o : Int) (p : Int → Bool), mk_ x (rq_ r (ej_ s) i) → mk_ o p → (∀ b, 0 ≤ b → b < 24 → p b = true → rq_ r (ej_ s) i b = true) → (∀ b k, (0 ≤ b ∧ b < 24) → rq_ r (ej_ s) i b = true → ej_ s b k = true → rq_ r (ej_ s) i k = true ∨ p b = true) → ∃ y, f_X7_reachFrom_L7 μ f x o i = some y ∧ mk_ y (rq_ r (ej_ s) 24) := by
  intro n
  induction n with
  | zero =>
    intro i hi f hf x o p hx ho hp hH
    obtain ⟨f', rfl⟩ : ∃ f', f = f' + 1 := ⟨f - 1, by omega⟩
    have e : i = 24 := by omega
    subst e
    refine ⟨x, ?_, hx⟩
    rw [f_X7_reachFrom_L7, lt_n (by decide) (by decide) (by decide)]
  | succ n ih =>
    intro i hi f hf x o p hx ho hp hH
    obtain ⟨f', rfl⟩ : ∃ f', f = f' + 1 := ⟨f - 1, by omega⟩
    rw [f_X7_reachFrom_L7, lt_y (by omega) (by decide) (by omega)]
    by_cases h0 : o = 0
    · rw [eq_y h0]
      refine ⟨x, rfl, mk_e (fun k k0 k1 => ?_) hx⟩
      exact (rc_end hH ((mk_z ho).mp h0) 24 (by omega) k k0 k1).symm
    · obtain ⟨z, e1, e2⟩ := e_all h1 ht ho
      have w1 := mk_no e2 hx
      have w2 := mk_e (fun k _ _ => rc_new hp hH k) (mk_or hx w1)
      obtain ⟨w3, w4⟩ := rc_nH hp hH
      have q := ih (i + 1) (by omega) f' (by omega) _ _ _ w2 w1 w3 w4
      rw [eq_n ho.1 (by decide) h0, e1, bd_some]
      exact q
theorem e_reachFrom (h1 : ∀ k, 0 ≤ k → k < 96 → μ 1 k = s (137 + k)) (ht : ∀ k, 0 ≤ k → k < 96 → s (137 + k) = -15 ∨ (0 ≤ s (137 + k) ∧ s (137 + k) < 24)) {r : Int → Bool} {x : Int} (hx : mk_ x r) : ∃ y, f_X7_reachFrom μ x = some y ∧ mk_ y (rq_ r (ej_ s) 24) := by
  obtain ⟨F, hF, hF2⟩ := F_big
  unfold f_X7_reachFrom
  rw [← hF2]
  exact l_rf h1 ht 24 0 (by decide) F (by omega) x x r hx hx (fun b _ _ h => h) (fun b k _ h _ => Or.inr h)
theorem l_ds (h1 : ∀ k, 0 ≤ k → k < 96 → μ 1 k = s (137 + k)) (ht : ∀ k, 0 ≤ k → k < 96 → s (137 + k) = -15 ∨ (0 ≤ s (137 + k) ∧ s (137 + k) < 24)) {r : Int → Bool} {a : Int} (ha : 0 ≤ a ∧ a < 24) : ∀ (n i : Nat), i + n = 24 → ∀ f : Nat, n < f → ∀ (x o : Int) (p : Int → Bool), mk_ x (rq_ r (ej_ s) i) → mk_ o p → (∀ b, 0 ≤ b → b < 24 → p b = true → rq_ r (ej_ s) i b = true) → (∀ b k, (0 ≤ b ∧ b < 24) → rq_ r (ej_ s) i b = true → ej_ s b k = true → rq_ r (ej_ s) i k = true ∨ p b = true) → (rq_ r (ej_ s) i a = true → p a = true) → (∀ d, i ≤ d → d < 24 → rq_ r (ej_ s) d a = true → (∀ d', i ≤ d' → d' < d → rq_ r (ej_ s) d' a = false) → f_X7_distance_L8 a μ f x o i = some (d : Int)) ∧ ((∀ d, i ≤ d → d < 24 → rq_ r (ej_ s) d a = false) → f_X7_distance_L8 a μ f x o i = some (-15)) := by
  intro n
  induction n with
  | zero =>
    intro i hi f hf x o p hx ho hp hH hn
    obtain ⟨f', rfl⟩ : ∃ f', f = f' + 1 := ⟨f - 1, by omega⟩
    refine ⟨fun d d0 d1 => by omega, fun _ => ?_⟩
    rw [f_X7_distance_L8, lt_n (by omega) (by decide) (by omega)]
  | succ n ih =>
    intro i hi f hf x o p hx ho hp hH hn
    obtain ⟨f', rfl⟩ : ∃ f', f = f' + 1 := ⟨f - 1, by omega⟩
    rw [f_X7_distance_L8, lt_y (by omega) (by decide) (by omega)]
    by_cases h0 : o = 0
    · have hz := (mk_z ho).mp h0
      have hc := rc_end hH hz
      have hai : rq_ r (ej_ s) i a = false := Bool.eq_false_iff.mpr (fun q => by
        have w := hn q
        rw [hz a ha.1 ha.2] at w
        exact absurd w (by decide))
      rw [eq_y h0]
      refine ⟨fun d d0 d1 d2 _ => ?_, fun _ => rfl⟩
      rw [hc d d0 a ha.1 ha.2, hai] at d2
      exact absurd d2 (by decide)
    · rw [eq_n ho.1 (by decide) h0, e_isIn ho ha, bd_some]
      by_cases hpa : p a = true
      · rw [if_pos hpa, eq_n (by decide) (by decide) (by decide)]
        have hra := hp a ha.1 ha.2 hpa
        refine ⟨fun d d0 d1 d2 d3 => ?_, fun h => ?_⟩
        · by_cases hd : d = i
          · rw [hd]
          · have w := d3 i (by omega) (by omega)
            rw [hra] at w
            exact absurd w (by decide)
        · have w := h i (by omega) (by omega)
          rw [hra] at w
          exact absurd w (by decide)
      · obtain ⟨z, e1, e2⟩ := e_all h1 ht ho
        have w1 := mk_no e2 hx
        have w2 := mk_e (fun k _ _ => rc_new hp hH k) (mk_or hx w1)
        obtain ⟨w3, w4⟩ := rc_nH hp hH
        have hai : rq_ r (ej_ s) i a = false := Bool.eq_false_iff.mpr (fun q => hpa (hn q))
        obtain ⟨q1, q2⟩ := ih (i + 1) (by omega) f' (by omega) _ _ _ w2 w1 w3 w4 (fun h => by
          rw [← rc_new hp hH a, hai, Bool.false_or] at h
          rw [hai]
          exact h)
        rw [if_neg hpa, eq_y rfl, e1, bd_some]
        refine ⟨fun d d0 d1 d2 d3 => ?_, fun h => ?_⟩
        · by_cases hd : d = i
          · rw [hd, hai] at d2
            exact absurd d2 (by decide)
          · exact q1 d (by omega) d1 d2 (fun d' a b => d3 d' (by omega) b)
        · exact q2 (fun d a b => h d (by omega) b)
theorem e_distance (h1 : ∀ k, 0 ≤ k → k < 96 → μ 1 k = s (137 + k)) (ht : ∀ k, 0 ≤ k → k < 96 → s (137 + k) = -15 ∨ (0 ≤ s (137 + k) ∧ s (137 + k) < 24)) {r : Int → Bool} {x a : Int} (hx : mk_ x r) (ha : 0 ≤ a ∧ a < 24) : (∀ d : Nat, d < 24 → rq_ r (ej_ s) d a = true → (∀ d', d' < d → rq_ r (ej_ s) d' a = false) → f_X7_distance μ x a = some (d : Int)) ∧ ((∀ d, d < 24 → rq_ r (ej_ s) d a = false) → f_X7_distance μ x a = some (-15)) := by
  obtain ⟨F, hF, hF2⟩ := F_big
  unfold f_X7_distance
  rw [← hF2]
  obtain ⟨q1, q2⟩ := l_ds h1 ht ha 24 0 (by decide) F (by omega) x x r hx hx (fun b _ _ h => h) (fun b k _ h _ => Or.inr h) (fun h => h)
  exact ⟨fun d d1 d2 d3 => q1 d (by omega) d1 d2 (fun d' _ b => d3 d' b), fun h => q2 (fun d _ b => h d b)⟩
end PG
