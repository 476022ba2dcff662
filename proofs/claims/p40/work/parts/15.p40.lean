/-! a text is read, on both sides -/
theorem t8_0 {α : Type} {b0 b1 b2 b3 b4 b5 b6 b7 df : Option α} : ts_ 117 [117, 116, 118, 110, 100, 119, 114, 115] [b0, b1, b2, b3, b4, b5, b6, b7] df = b0 := rfl
theorem t8_1 {α : Type} {b0 b1 b2 b3 b4 b5 b6 b7 df : Option α} : ts_ 116 [117, 116, 118, 110, 100, 119, 114, 115] [b0, b1, b2, b3, b4, b5, b6, b7] df = b1 := rfl
theorem t8_2 {α : Type} {b0 b1 b2 b3 b4 b5 b6 b7 df : Option α} : ts_ 118 [117, 116, 118, 110, 100, 119, 114, 115] [b0, b1, b2, b3, b4, b5, b6, b7] df = b2 := rfl
theorem t8_3 {α : Type} {b0 b1 b2 b3 b4 b5 b6 b7 df : Option α} : ts_ 110 [117, 116, 118, 110, 100, 119, 114, 115] [b0, b1, b2, b3, b4, b5, b6, b7] df = b3 := rfl
theorem t8_4 {α : Type} {b0 b1 b2 b3 b4 b5 b6 b7 df : Option α} : ts_ 100 [117, 116, 118, 110, 100, 119, 114, 115] [b0, b1, b2, b3, b4, b5, b6, b7] df = b4 := rfl
theorem t8_5 {α : Type} {b0 b1 b2 b3 b4 b5 b6 b7 df : Option α} : ts_ 119 [117, 116, 118, 110, 100, 119, 114, 115] [b0, b1, b2, b3, b4, b5, b6, b7] df = b5 := rfl
theorem t8_6 {α : Type} {b0 b1 b2 b3 b4 b5 b6 b7 df : Option α} : ts_ 114 [117, 116, 118, 110, 100, 119, 114, 115] [b0, b1, b2, b3, b4, b5, b6, b7] df = b6 := rfl
theorem t8_7 {α : Type} {b0 b1 b2 b3 b4 b5 b6 b7 df : Option α} : ts_ 115 [117, 116, 118, 110, 100, 119, 114, 115] [b0, b1, b2, b3, b4, b5, b6, b7] df = b7 := rfl
theorem t8_d {α : Type} {b0 b1 b2 b3 b4 b5 b6 b7 df : Option α} {a : Int} (ha : rg_ a) (h : a ≠ 117 ∧ a ≠ 116 ∧ a ≠ 118 ∧ a ≠ 110 ∧ a ≠ 100 ∧ a ≠ 119 ∧ a ≠ 114 ∧ a ≠ 115) : ts_ a [117, 116, 118, 110, 100, 119, 114, 115] [b0, b1, b2, b3, b4, b5, b6, b7] df = df := by
  unfold ts_
  rw [if_pos ha]
  simp only [tw_]
  rw [if_neg (by omega), if_neg (by omega), if_neg (by omega), if_neg (by omega), if_neg (by omega), if_neg (by omega), if_neg (by omega), if_neg (by omega)]
theorem t10_0 {α : Type} {b0 b1 b2 b3 b4 b5 b6 b7 b8 b9 df : Option α} : ts_ 1 [1, 2, 3, 4, 5, 6, 7, 8, 9, 10] [b0, b1, b2, b3, b4, b5, b6, b7, b8, b9] df = b0 := rfl
theorem t10_1 {α : Type} {b0 b1 b2 b3 b4 b5 b6 b7 b8 b9 df : Option α} : ts_ 2 [1, 2, 3, 4, 5, 6, 7, 8, 9, 10] [b0, b1, b2, b3, b4, b5, b6, b7, b8, b9] df = b1 := rfl
theorem t10_2 {α : Type} {b0 b1 b2 b3 b4 b5 b6 b7 b8 b9 df : Option α} : ts_ 3 [1, 2, 3, 4, 5, 6, 7, 8, 9, 10] [b0, b1, b2, b3, b4, b5, b6, b7, b8, b9] df = b2 := rfl
theorem t10_3 {α : Type} {b0 b1 b2 b3 b4 b5 b6 b7 b8 b9 df : Option α} : ts_ 4 [1, 2, 3, 4, 5, 6, 7, 8, 9, 10] [b0, b1, b2, b3, b4, b5, b6, b7, b8, b9] df = b3 := rfl
theorem t10_4 {α : Type} {b0 b1 b2 b3 b4 b5 b6 b7 b8 b9 df : Option α} : ts_ 5 [1, 2, 3, 4, 5, 6, 7, 8, 9, 10] [b0, b1, b2, b3, b4, b5, b6, b7, b8, b9] df = b4 := rfl
theorem t10_5 {α : Type} {b0 b1 b2 b3 b4 b5 b6 b7 b8 b9 df : Option α} : ts_ 6 [1, 2, 3, 4, 5, 6, 7, 8, 9, 10] [b0, b1, b2, b3, b4, b5, b6, b7, b8, b9] df = b5 := rfl
theorem t10_6 {α : Type} {b0 b1 b2 b3 b4 b5 b6 b7 b8 b9 df : Option α} : ts_ 7 [1, 2, 3, 4, 5, 6, 7, 8, 9, 10] [b0, b1, b2, b3, b4, b5, b6, b7, b8, b9] df = b6 := rfl
theorem t10_7 {α : Type} {b0 b1 b2 b3 b4 b5 b6 b7 b8 b9 df : Option α} : ts_ 8 [1, 2, 3, 4, 5, 6, 7, 8, 9, 10] [b0, b1, b2, b3, b4, b5, b6, b7, b8, b9] df = b7 := rfl
theorem t10_8 {α : Type} {b0 b1 b2 b3 b4 b5 b6 b7 b8 b9 df : Option α} : ts_ 9 [1, 2, 3, 4, 5, 6, 7, 8, 9, 10] [b0, b1, b2, b3, b4, b5, b6, b7, b8, b9] df = b8 := rfl
theorem t10_9 {α : Type} {b0 b1 b2 b3 b4 b5 b6 b7 b8 b9 df : Option α} : ts_ 10 [1, 2, 3, 4, 5, 6, 7, 8, 9, 10] [b0, b1, b2, b3, b4, b5, b6, b7, b8, b9] df = b9 := rfl
theorem t10_d {α : Type} {b0 b1 b2 b3 b4 b5 b6 b7 b8 b9 df : Option α} {a : Int} (ha : rg_ a) (h : a ≠ 1 ∧ a ≠ 2 ∧ a ≠ 3 ∧ a ≠ 4 ∧ a ≠ 5 ∧ a ≠ 6 ∧ a ≠ 7 ∧ a ≠ 8 ∧ a ≠ 9 ∧ a ≠ 10) : ts_ a [1, 2, 3, 4, 5, 6, 7, 8, 9, 10] [b0, b1, b2, b3, b4, b5, b6, b7, b8, b9] df = df := by
  unfold ts_
  rw [if_pos ha]
  simp only [tw_]
  rw [if_neg (by omega), if_neg (by omega), if_neg (by omega), if_neg (by omega), if_neg (by omega), if_neg (by omega), if_neg (by omega), if_neg (by omega), if_neg (by omega), if_neg (by omega)]
section RT9
variable {μ ν : mu_T} {T : Int → Int} {L : Int}
theorem or9_k {μ1 ν1 : mu_T} {i : Int} (h3 : μ1 143 i = μ 143 i) (h4 : μ1 144 i = μ 144 i) (h5 : μ1 145 i = μ 145 i) (h6 : μ1 146 i = μ 146 i) (hn : ∀ k, 4 * i ≤ k → k < 4 * i + 4 → ν1 6 k = ν 6 k) (h : or9_ μ ν i) : or9_ μ1 ν1 i := by
  unfold or9_
  rw [h3, h4, h5, h6, hn (4 * i) (by omega) (by omega), hn (4 * i + 1) (by omega) (by omega), hn (4 * i + 2) (by omega) (by omega), hn (4 * i + 3) (by omega) (by omega)]
  exact h
/-- what reading a text leaves alone -/
def fx_ (μ μ' : mu_T) : Prop := (∀ q, q ≠ 140 → (q < 143 ∨ 147 < q) → μ' q = μ q)
def fn_ (ν ν' : mu_T) : Prop := (∀ q, q ≠ 0 → q ≠ 6 → ν' q = ν q) ∧ (∀ j, j ≠ 16 → j ≠ 18 → j ≠ 19 → ν' 0 j = ν 0 j)
theorem c_read {J : mu_T → Option (Int × mu_T)} (hL : 0 ≤ L ∧ L ≤ 60) (hT : ∀ k, 0 ≤ k → k < L → 32 ≤ T k ∧ T k ≤ 126) : ∀ (n : Nat) (a o : Int), L - a < n → (0 ≤ a ∧ a ≤ L) → (0 ≤ o ∧ 4 * o ≤ a) → ∀ f g : Nat, n < f → n < g → ∀ μ ν : mu_T, xt_ μ T L → μ 140 5 = o → ν 5 = T → ν 0 17 = L → ν 0 18 = o → ν 0 16 = a → ν 0 19 = 0 → (∀ i, 0 ≤ i → i < o → or9_ μ ν i) → ∃ (r : Int) (μ' ν' : mu_T), f_X6_read_L9 f a o μ = some (r, μ') ∧ bd_ (f_X12_readsOne ν) (fun ν1 => f_X12_run_L36 J g ν1) = J ν' ∧ fx_ μ μ' ∧ fn_ ν ν' ∧ ((r = -15 ∧ ν' 0 19 = 0 ∧ ν' 0 16 = L ∧ ∃ c, (o + 1 ≤ c ∧ c ≤ 16) ∧ μ' 140 5 = c ∧ ν' 0 18 = c ∧ ∀ i, 0 ≤ i → i < c → or9_ μ' ν' i) ∨ ((0 ≤ r ∧ r ≤ L) ∧ ν' 0 16 = r ∧ (ν' 0 19 = 1 ∨ (ν' 0 19 = 0 ∧ r < L)))) := by
  intro n
  induction n with
  | zero =>
    intro a o h1 h2
    omega
  | succ n ih =>
    intro a o hn ha ho f g hf hg μ ν hx hc h5 h17 h18 h16 h19 hprev
    obtain ⟨f', rfl⟩ : ∃ f', f = f' + 1 := ⟨f - 1, by omega⟩
    obtain ⟨g', rfl⟩ : ∃ f', g = f' + 1 := ⟨g - 1, by omega⟩
    have ht : tl_ T L a o := ⟨hL, hT, ha, by omega⟩
    obtain ⟨μ1, ν1, r1, g1, e18, f1, hcase⟩ := c_order hx hc h5 h17 h18 h16 h19 ht
    have hfx : fx_ μ μ1 := fun q q0 q1 => f1.1 q q0 q1
    have hfn : fn_ ν ν1 := ⟨g1.1, g1.2.1⟩
    have v5 : ν1 5 = T := (g1.1 5 (by decide) (by decide)).trans h5
    have v17 : ν1 0 17 = L := (g1.2.1 17 (by decide) (by decide) (by decide)).trans h17
    rcases hcase with ⟨d1, d2, p, d3, d4, d5, d6, d7, d8, d9⟩ | ⟨p, d1, d2, d3, d4, d5⟩
    · have hx1 : xt_ μ1 T L := xt_k (f1.1 141 (by decide) (by decide)) (f1.1 142 (by decide) (by decide)) hx
      have hprev1 : ∀ i, 0 ≤ i → i < o + 1 → or9_ μ1 ν1 i := fun i i0 i1 => by
        by_cases hi : i = o
        · rw [hi]
          exact d9
        · obtain ⟨w1, w2, w3, w4⟩ := f1.2.2 i (by omega)
          exact or9_k w1 w2 w3 w4 (fun k k0 k1 => g1.2.2 k (by omega)) (hprev i i0 (by omega))
      have eh := e_here v5 v17 d4 ⟨by omega, d7⟩ hL.2
      by_cases hp : p < L
      · have h59 : T p = 59 := by omega
        -- one more
        obtain ⟨r, μ', ν', b1, b2, b3, b4, b5⟩ := ih (p + 1) (o + 1) (by omega) (by omega) (by omega) f' g' (by omega) (by omega) μ1 (st_ ν1 0 16 (p + 1)) hx1 d2 (by rw [st_n (by decide)]; exact v5) (by rw [st_s, if_neg (by decide)]; exact v17) (by rw [st_s, if_neg (by decide)]; exact e18) (by rw [st_s, if_pos rfl]) (by rw [st_s, if_neg (by decide)]; exact d5) (fun i i0 i1 => or9_k rfl rfl rfl rfl (fun k _ _ => by rw [st_n (by decide)]) (hprev1 i i0 i1))
        refine ⟨r, μ', ν', ?_, ?_, fun q q0 q1 => (b3 q q0 q1).trans (hfx q q0 q1), ⟨fun q q0 q1 => by rw [b4.1 q q0 q1, st_n q0, hfn.1 q q0 q1], fun j j0 j1 j2 => by rw [b4.2 j j0 j1 j2, st_s, if_neg j0, hfn.2 j j0 j1 j2]⟩, ?_⟩
        · rw [f_X6_read_L9, lt_y (by omega) (by decide) (by omega), d1, bp_some, eq_y rfl, nm_q, d3, e_ln141 hx1.1, bd_some, lt_y (by omega) (by omega) hp, nm_q, nm_q, nm_q]
          exact b1
        · rw [r1, bd_some, f_X12_run_L36, nm_q (ν1 0 19), eq_y d5, eh, bd_some, if_pos hp, eq_y h59, nm_q (ν1 0 16), d4, wf_e]
          exact b2
        · rcases b5 with ⟨w1, w2, w3, c, w4, w5⟩ | w
          · exact Or.inl ⟨w1, w2, w3, c, by omega, w5⟩
          · exact Or.inr w
      · refine ⟨-15, μ1, ν1, ?_, ?_, hfx, hfn, Or.inl ⟨rfl, d5, by omega, o + 1, by omega, d2, e18, hprev1⟩⟩
        · rw [f_X6_read_L9, lt_y (by omega) (by decide) (by omega), d1, bp_some, eq_y rfl, nm_q, d3, e_ln141 hx1.1, bd_some, lt_n (by omega) (by omega) hp]
        · rw [r1, bd_some, f_X12_run_L36, nm_q (ν1 0 19), eq_y d5, eh, bd_some, if_neg hp, eq_n (by decide) (by decide) (by decide)]
    · have eh := e_here v5 v17 d4 ⟨by omega, d3⟩ hL.2
      refine ⟨p, μ1, ν1, ?_, ?_, hfx, hfn, Or.inr ⟨by omega, d4, d5.imp id (fun w => ⟨w.1, w.2.1⟩)⟩⟩
      · rw [f_X6_read_L9, lt_y (by omega) (by decide) (by omega), d1, bp_some, eq_n (by omega) (by decide) (by omega)]
      · rw [r1, bd_some, f_X12_run_L36, nm_q (ν1 0 19)]
        rcases d5 with w | ⟨w1, w2, w3⟩
        · rw [w, eq_n (by decide) (by decide) (by decide)]
        · have q := hT p (by omega) w2
          rw [eq_y w1, eh, bd_some, if_pos w2, eq_n (by omega) (by decide) w3]
-- an order is carried out
theorem bp_id {x : Option (Int × mu_T)} : bp_ x (fun a b => some (a, b)) = x := by
  cases x <;> rfl
theorem c_do {t c x : Int} (ht : t ≤ 1000000) (h : hi_ t μ ν) (ho : or9_ μ ν x) (hx : 0 ≤ x ∧ x < c) (hc : c ≤ 16) (hc5 : μ 140 5 = c) : op_ t μ ν (f_X11_carryOut μ x) (f_X12_does ν x) := by
  have hk : 0 ≤ μ 143 x ∧ μ 143 x < 10 := by
    unfold or9_ at ho
    omega
  have eh : f_X6_has μ x = some 1 := by
    unfold f_X6_has
    rw [lt_n (by omega) (by decide) (by omega), nm_q, hc5, lt_y (by omega) (by omega) hx.2, lt_y (by omega) (by decide) (by omega), rd_e hx.1 (by omega), if_neg (by omega)]
  unfold f_X11_carryOut f_X12_does
  rw [eh, bd_some, eq_n (by decide) (by decide) (by decide), rd_e hx.1 (by omega), rd_e hx.1 (by omega), rd_e hx.1 (by omega), gd_e hk]
  unfold f_Jx29ce0_ordinal_8abf5
  rw [gd_e hk, bd_some, gd_e hk, rd_e (by omega) (by omega), rd_e (by omega) (by omega), rd_e (by omega) (by omega), rd_e (by omega) (by omega)]
  simp only [bp_id]
  rcases ho with ⟨k, s, b1⟩ | ⟨k, s, b1⟩ | ⟨k, s, b1, b2, b3⟩ | ⟨k, s, b1, b2⟩ | ⟨k, s, b1, b2⟩ | ⟨k, s, b1⟩ | ⟨k, s, b1, b2⟩ | ⟨k, s⟩ | ⟨k, s, b1⟩ | ⟨k, s⟩
  · rw [k, s, b1, show (0 : Int) + 1 = 1 from rfl, t10_0, t8_0, eq_n (by decide) (by decide) (by decide)]
    exact op_makes h (Or.inl rfl)
  · rw [k, s, b1, show (1 : Int) + 1 = 2 from rfl, t10_1, t8_0, eq_y rfl]
    exact op_makes h (Or.inr rfl)
  · rw [k, s, show (2 : Int) + 1 = 3 from rfl, t10_2, t8_1, rd_e (by omega) (by omega), b1.1, b2.1, b3.1]
    exact op_ties h (by omega) (by omega) (by omega)
  · rw [k, s, show (3 : Int) + 1 = 4 from rfl, t10_3, t8_2, b1.1, b2.1]
    exact op_unties h (by omega) (by omega)
  · rw [k, s, show (4 : Int) + 1 = 5 from rfl, t10_4, t8_3, b1.1, b2.1]
    exact op_names h (by omega) (by omega)
  · rw [k, s, show (5 : Int) + 1 = 6 from rfl, t10_5, t8_4, b1.1]
    exact op_drops h (by omega)
  · rw [k, s, show (6 : Int) + 1 = 7 from rfl, t10_6, t8_5, b1.1, b2.1]
    exact op_weakens h (by omega) (by omega)
  · rw [k, s, show (7 : Int) + 1 = 8 from rfl, t10_7, t8_6]
    exact op_round ht h
  · rw [k, s, show (8 : Int) + 1 = 9 from rfl, t10_8, t8_7, b1.1]
    exact op_steps ht h (by omega)
  · rw [k, s, show (9 : Int) + 1 = 10 from rfl, t10_9, t8_d (by decide) (by decide)]
    exact op_rite h
theorem l_exec {J58 : Int → mu_T → Option (Int × mu_T)} {J82 : mu_T → Option (Int × mu_T)} {J114 : Int → mu_T → Option (Int × mu_T)} {J159 : mu_T → Option (Int × mu_T)} {c : Int} (hc : 0 ≤ c ∧ c ≤ 16) : ∀ (n : Nat) (x t : Int), t + n ≤ 1000000 → 0 ≤ x → x + n = c → ∀ f g : Nat, n < f → n < g → ∀ μ ν : mu_T, hi_ t μ ν → μ 140 5 = c → ν 0 18 = c → (∀ i, x ≤ i → i < c → or9_ μ ν i) → ∃ (μ' ν' : mu_T), (∀ k, 12 ≤ k → k ≠ 133 → μ' k = μ k) ∧ (∀ k, 2 ≤ k → ν' k = ν k) ∧ (∀ j, j ≠ 14 → j ≠ 15 → ν' 0 j = ν 0 j) ∧ ((f_X11_run_L36 J58 J82 f x μ = J82 μ' ∧ f_X12_run_L98 J114 J159 g x ν = J159 ν' ∧ (hi_ (t + n) μ' ν' ∧ (iv_B (ν 1) → iv_B (ν' 1))) ∧ μ' 133 = μ 133) ∨ ∃ y, (0 ≤ y ∧ y < c) ∧ f_X11_run_L36 J58 J82 f x μ = J58 y μ' ∧ f_X12_run_L98 J114 J159 g x ν = J114 y ν') := by
  intro n
  induction n with
  | zero =>
    intro x t htt x0 hx f g hf hg μ ν h hc5 h18 hor
    obtain ⟨f', rfl⟩ : ∃ f', f = f' + 1 := ⟨f - 1, by omega⟩
    obtain ⟨g', rfl⟩ : ∃ f', g = f' + 1 := ⟨g - 1, by omega⟩
    refine ⟨μ, ν, fun _ _ _ => rfl, fun _ _ => rfl, fun _ _ _ => rfl, Or.inl ⟨?_, ?_, ?_, rfl⟩⟩
    · rw [f_X11_run_L36, nm_q, hc5, lt_n (by omega) (by omega) (by omega)]
    · rw [f_X12_run_L98, nm_q, h18, lt_n (by omega) (by omega) (by omega)]
    · rw [show t + ((0 : Nat) : Int) = t by omega]
      exact ⟨h, fun hB => hB⟩
  | succ n ih =>
    intro x t htt x0 hx f g hf hg μ ν h hc5 h18 hor
    obtain ⟨f', rfl⟩ : ∃ f', f = f' + 1 := ⟨f - 1, by omega⟩
    obtain ⟨g', rfl⟩ : ∃ f', g = f' + 1 := ⟨g - 1, by omega⟩
    obtain ⟨r, μ1, cc, ν1, a1, a2, a3, a4, a5, a6⟩ := c_do (by omega) h (hor x (by omega) (by omega)) ⟨x0, by omega⟩ hc.2 hc5
    have eX : f_X11_run_L36 J58 J82 (f' + 1) x μ = bd_ (f_X3_isRefusal μ1 r) (fun v52 => eq_ v52 0 (f_X11_run_L36 J58 J82 f' (x + 1) μ1) (J58 x μ1)) := by
      rw [f_X11_run_L36, nm_q, hc5, lt_y (by omega) (by omega) (by omega), a1, bp_some]
      rfl
    have eM : f_X12_run_L98 J114 J159 (g' + 1) x ν = eq_ cc 0 (f_X12_run_L98 J114 J159 g' (x + 1) ν1) (J114 x ν1) := by
      rw [f_X12_run_L98, nm_q, h18, lt_y (by omega) (by omega) (by omega), a2, bp_some]
      rfl
    rw [eX, eM]
    have stop : r = -11 ∨ r = -12 ∨ r = -14 → cc ≠ 0 → rg_ cc → ∃ (μ' ν' : mu_T), (∀ k, 12 ≤ k → k ≠ 133 → μ' k = μ k) ∧ (∀ k, 2 ≤ k → ν' k = ν k) ∧ (∀ j, j ≠ 14 → j ≠ 15 → ν' 0 j = ν 0 j) ∧ ((bd_ (f_X3_isRefusal μ1 r) (fun v52 => eq_ v52 0 (f_X11_run_L36 J58 J82 f' (x + 1) μ1) (J58 x μ1)) = J82 μ' ∧ eq_ cc 0 (f_X12_run_L98 J114 J159 g' (x + 1) ν1) (J114 x ν1) = J159 ν' ∧ (hi_ (t + ((n + 1 : Nat) : Int)) μ' ν' ∧ (iv_B (ν 1) → iv_B (ν' 1))) ∧ μ' 133 = μ 133) ∨ ∃ y, (0 ≤ y ∧ y < c) ∧ bd_ (f_X3_isRefusal μ1 r) (fun v52 => eq_ v52 0 (f_X11_run_L36 J58 J82 f' (x + 1) μ1) (J58 x μ1)) = J58 y μ' ∧ eq_ cc 0 (f_X12_run_L98 J114 J159 g' (x + 1) ν1) (J114 x ν1) = J114 y ν') := fun hr hcc hrg => by
      refine ⟨μ1, ν1, a3, a4, a5, Or.inr ⟨x, ⟨x0, by omega⟩, ?_, ?_⟩⟩
      · rw [e_isRefusal (by omega), bd_some, tr_0, if_pos hr]
      · rw [eq_n hrg (by decide) hcc]
    rcases a6 with ⟨c0, c1, c2, c3, c4, c7⟩ | ⟨c0, c1, c2, c3, c4, c7⟩ | ⟨c0, c1, c2, c3, c4, c5, c7⟩
    · exact stop (by omega) (by omega) (by omega)
    · exact stop (by omega) (by omega) (by omega)
    · obtain ⟨μ', ν', b1, b2, b3, b4⟩ := ih (x + 1) (t + 1) (by omega) (by omega) (by omega) f' g' (by omega) (by omega) μ1 ν1 c5 (by rw [a3 140 (by decide) (by decide)]; exact hc5) (by rw [a5 18 (by decide) (by decide)]; exact h18) (fun i i0 i1 => or9_k (by rw [a3 143 (by decide) (by decide)]) (by rw [a3 144 (by decide) (by decide)]) (by rw [a3 145 (by decide) (by decide)]) (by rw [a3 146 (by decide) (by decide)]) (fun k _ _ => by rw [a4 6 (by decide)]) (hor i (by omega) i1))
      refine ⟨μ', ν', fun k k0 k1 => (b1 k k0 k1).trans (a3 k k0 k1), fun k k0 => (b2 k k0).trans (a4 k k0), fun j j0 j1 => (b3 j j0 j1).trans (a5 j j0 j1), ?_⟩
      have hnr : ¬ (r = -11 ∨ r = -12 ∨ r = -14) := by
        clear ih stop h hor b4
        omega
      rw [e_isRefusal c3, bd_some, tr_0, if_neg hnr, eq_y c0]
      rcases b4 with ⟨w1, w2, w3, w4⟩ | ⟨y, w1, w2, w3⟩
      · refine Or.inl ⟨w1, w2, ?_, w4.trans c4⟩
        rw [show t + ((n + 1 : Nat) : Int) = t + 1 + n by omega]
        exact ⟨w3.1, fun hB => w3.2 (c7 hB)⟩
      · exact Or.inr ⟨y, w1, w2, w3⟩
end RT9
