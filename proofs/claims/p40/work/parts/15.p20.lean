/-! what is kept; undo, save, restore -/
section KP
variable {μ ν μ1 ν1 : mu_T}
theorem sd_k {t t' : Int} (ht : t ≤ t') (h : sd_ t μ ν) (q1 : ∀ q, 120 ≤ q → q < 132 → μ1 q = μ q) (q2 : μ1 138 3 = μ 138 3) (q3 : ν1 0 5 = ν 0 5) (q4 : ν1 3 = ν 3) : sd_ t' μ1 ν1 := by
  unfold sd_
  rw [q2, q3, q4]
  refine ⟨h.1, h.2.imp id (fun w => ⟨w.1, ?_⟩)⟩
  have w2 := hv_mono ht w.2
  exact ⟨hr_x (fun j hj => q1 (120 + j) (by omega) (by omega)) w2.1, w2.2⟩
theorem hs_k {t t' : Int} (ht : t ≤ t') (h : hs_ t μ ν) (q1 : ∀ q, 12 ≤ q → q < 120 → μ1 q = μ q) (q2 : μ1 138 4 = μ 138 4) (q5 : μ1 138 5 = μ 138 5) (q3 : ν1 0 4 = ν 0 4) (q4 : ν1 4 = ν 4) : hs_ t' μ1 ν1 := by
  obtain ⟨g1, g2, g3, g4⟩ := h
  unfold hs_
  rw [q2, q5, q3, q4]
  refine ⟨g1, g2, g3, fun m m0 m1 => ?_⟩
  have hp := hp_ne g1 (m := m) ⟨m0, by omega⟩
  have w := hv_mono ht (g4 m m0 m1)
  exact ⟨hr_x (fun j hj => q1 (12 * hp_ (μ 138 4) m + j) (by omega) (by omega)) w.1, w.2⟩
theorem rs_k (q1 : μ1 133 = μ 133) (q2 : ν1 0 12 = ν 0 12) (q3 : ν1 0 13 = ν 0 13) (h : rs_2 μ ν) : rs_2 μ1 ν1 := by
  unfold rs_2
  rw [q1, q2, q3]
  exact h
theorem RR_kk {t : Nat} (hR : RR_ t μ ν) (hμ : ∀ q, q ≠ 137 → μ1 q = μ q) (hν : ∀ q, q ≠ 8 → ν1 q = ν q) : RR_ (t + 1) μ1 ν1 := by
  obtain ⟨h1, h2, h3, h4, h5, h6⟩ := RR_skip t μ ν hR
  have e0 : ν1 0 = ν 0 := hν 0 (by decide)
  refine ⟨⟨hr_x (fun j hj => hμ j (by omega)) (by rw [hν 1 (by decide)]; exact h1.1), by rw [hν 1 (by decide)]; exact h1.2⟩, sd_k (Int.le_refl _) h2 (fun q a b => hμ q (by omega)) (by rw [hμ 138 (by decide)]) (by rw [e0]) (hν 3 (by decide)), hs_k (Int.le_refl _) h3 (fun q a b => hμ q (by omega)) (by rw [hμ 138 (by decide)]) (by rw [hμ 138 (by decide)]) (by rw [e0]) (hν 4 (by decide)), rs_k (hμ 133 (by decide)) (by rw [e0]) (by rw [e0]) h4, tx_k (hμ 141 (by decide)) (hμ 142 (by decide)) (by rw [e0]) (hν 5 (by decide)) h5, ln_k (hμ 149 (by decide)) (hμ 150 (by decide)) (by rw [e0]) (hν 7 (by decide)) h6⟩
-- counting, as the loops do
theorem cn_s {p : Int → Bool} {i : Nat} : cn_ p (i + 1) = cn_ p i + (if p i then 1 else 0) := rfl
theorem cn_not {p q : Int → Bool} : ∀ n : Nat, (∀ c : Int, 0 ≤ c → c < n → q c = !(p c)) → cn_ q n + cn_ p n = n
  | 0, _ => rfl
  | n + 1, h => by
    have e := cn_not n (fun c a b => h c a (by omega))
    have e2 := h n (by omega) (by omega)
    rw [cn_s, cn_s, e2]
    cases p n
    · rw [if_pos (by rfl), if_neg (by decide)]
      omega
    · rw [if_neg (by decide), if_pos (by rfl)]
      omega
theorem l_uo {a : Int} (ha : rg_ a) (h : ∀ c, 0 ≤ c → c < 24 → rg_ (μ 4 c)) : ∀ (n i : Nat), i + n = 24 → ∀ f : Nat, n < f → f_X2_urnsOf_L4 a μ f (cn_ (fun c => decide (μ 4 c = a)) i) i = some (cn_ (fun c => decide (μ 4 c = a)) 24) := by
  intro n
  induction n with
  | zero =>
    intro i hi f hf
    obtain ⟨f', rfl⟩ : ∃ f', f = f' + 1 := ⟨f - 1, by omega⟩
    have e : i = 24 := by omega
    subst e
    rw [f_X2_urnsOf_L4, lt_n (by decide) (by decide) (by decide)]
  | succ n ih =>
    intro i hi f hf
    obtain ⟨f', rfl⟩ : ∃ f', f = f' + 1 := ⟨f - 1, by omega⟩
    have q := ih (i + 1) (by omega) f' (by omega)
    rw [cn_s] at q
    rw [f_X2_urnsOf_L4, lt_y (by omega) (by decide) (by omega), rd_e (by omega) (by omega), jn_e]
    by_cases hc : μ 4 i = a
    · rw [if_pos (decide_eq_true hc)] at q
      rw [eq_y hc]
      exact q
    · rw [if_neg (by rw [decide_eq_false hc]; decide), Int.add_zero] at q
      rw [eq_n (h i (by omega) (by omega)) ha hc]
      exact q
theorem e_urnsOf {a : Int} (ha : rg_ a) (h : ∀ c, 0 ≤ c → c < 24 → rg_ (μ 4 c)) : f_X2_urnsOf μ a = some (cn_ (fun c => decide (μ 4 c = a)) 24) := by
  obtain ⟨F, hF, hF2⟩ := F_big
  unfold f_X2_urnsOf
  rw [← hF2]
  exact l_uo ha h 24 0 (by decide) F (by omega)
/-- how many urns there are -/
def nu_ (s : Int → Int) : Int := cn_ (fun c => decide (s (17 + c) = 1)) 24
theorem h4_rg {s : Int → Int} (hT : iv_T s) (hh : ∀ c, 0 ≤ c → c < 24 → μ 4 c = if s (17 + c) = 0 then -1 else s (41 + c)) : ∀ c, 0 ≤ c → c < 24 → rg_ (μ 4 c) := fun c a b => by
  have q := hT c a b
  rw [hh c a b]
  split <;> omega
theorem e_urns {s : Int → Int} (hT : iv_T s) (hh : ∀ c, 0 ≤ c → c < 24 → μ 4 c = if s (17 + c) = 0 then -1 else s (41 + c)) : f_X2_urns μ = some (nu_ s) := by
  unfold f_X2_urns
  rw [e_urnsOf (by decide) (h4_rg hT hh), bd_some]
  have e := cn_not (p := fun c => decide (s (17 + c) = 1)) (q := fun c => decide (μ 4 c = -1)) 24 (fun c a b => by
    have q := hT c a (by omega)
    show decide (μ 4 c = -1) = !(decide (s (17 + c) = 1))
    rw [hh c a (by omega)]
    by_cases h : s (17 + c) = 0
    · rw [if_pos h, h]
      rfl
    · have h1 : s (17 + c) = 1 := by omega
      rw [if_neg h, h1, decide_eq_false (by omega)]
      rfl)
  unfold nu_
  congr 1
  omega
theorem l_mu (hT : iv_T (ν 1)) : ∀ (n i : Nat), i + n = 24 → ∀ f : Nat, n < f → f_X12_manyUrns_L4 ν f (cn_ (fun c => decide (ν 1 (17 + c) = 1)) i) i = some (cn_ (fun c => decide (ν 1 (17 + c) = 1)) 24) := by
  intro n
  induction n with
  | zero =>
    intro i hi f hf
    obtain ⟨f', rfl⟩ : ∃ f', f = f' + 1 := ⟨f - 1, by omega⟩
    have e : i = 24 := by omega
    subst e
    rw [f_X12_manyUrns_L4, lt_n (by decide) (by decide) (by decide)]
  | succ n ih =>
    intro i hi f hf
    obtain ⟨f', rfl⟩ : ∃ f', f = f' + 1 := ⟨f - 1, by omega⟩
    have q := ih (i + 1) (by omega) f' (by omega)
    have w := hT i (by omega) (by omega)
    have e : cn_ (fun c => decide (ν 1 (17 + c) = 1)) (i + 1) = cn_ (fun c => decide (ν 1 (17 + c) = 1)) i + ν 1 (17 + i) := by
      rw [cn_s]
      rcases w.1 with z | z
      · rw [if_neg (by rw [z]; decide), z]
      · rw [if_pos (by rw [z]; decide), z]
    rw [e] at q
    rw [f_X12_manyUrns_L4, lt_y (by omega) (by decide) (by omega), rd_e (by omega) (by omega), nm_q, nm_q]
    exact q
theorem e_many (hT : iv_T (ν 1)) : f_X12_manyUrns ν = some (nu_ (ν 1)) := by
  obtain ⟨F, hF, hF2⟩ := F_big
  unfold f_X12_manyUrns
  rw [← hF2]
  exact l_mu hT 24 0 (by decide) F (by omega)
-- rows of the reference, copied back
theorem l_ub {κ : Int} (hκ : 0 ≤ κ ∧ κ < 8) : ∀ (n : Nat) (i : Int), 0 ≤ i → i + n = 293 → ∀ f : Nat, n < f → ∀ ν : mu_T, ν 0 4 = κ → ∃ ν' : mu_T, f_X12_undo_L22 f i ν = some (κ, ν') ∧ (∀ q, q ≠ 1 → ν' q = ν q) ∧ (∀ k, i ≤ k → k < 293 → ν' 1 k = ν 4 (293 * κ + k)) ∧ (∀ k, k < i → ν' 1 k = ν 1 k) := by
  intro n
  induction n with
  | zero =>
    intro i i0 hi f hf ν hν
    obtain ⟨f', rfl⟩ : ∃ f', f = f' + 1 := ⟨f - 1, by omega⟩
    refine ⟨ν, ?_, fun _ _ => rfl, fun k a b => by omega, fun _ _ => rfl⟩
    rw [f_X12_undo_L22, lt_n (by omega) (by decide) (by omega), nm_q, hν]
  | succ n ih =>
    intro i i0 hi f hf ν hν
    obtain ⟨f', rfl⟩ : ∃ f', f = f' + 1 := ⟨f - 1, by omega⟩
    obtain ⟨ν', h1, h2, h3, h4⟩ := ih (i + 1) (by omega) (by omega) f' (by omega) (st_ ν 1 i (ν 4 (293 * κ + i))) (by rw [st_n (by decide)]; exact hν)
    refine ⟨ν', ?_, fun q hq => ?_, fun k a b => ?_, fun k a => ?_⟩
    · rw [f_X12_undo_L22, lt_y (by omega) (by decide) (by omega), nm_q, hν, rd_e (by omega) (by omega), wr_e (by omega) (by omega), nm_q]
      exact h1
    · rw [h2 q hq, st_n hq]
    · by_cases hk : k = i
      · rw [h4 k (by omega), hk, st_s, if_pos rfl]
      · rw [h3 k (by omega) b, st_n (by decide)]
    · rw [h4 k (by omega), st_s, if_neg (by omega)]
theorem l_sv {J : mu_T → Option (Int × mu_T)} : ∀ (n : Nat) (i : Int), 0 ≤ i → i + n = 293 → ∀ f : Nat, n < f → ∀ ν : mu_T, ∃ ν' : mu_T, f_X12_save_L2 J f i ν = J ν' ∧ (∀ q, q ≠ 3 → ν' q = ν q) ∧ (∀ k, i ≤ k → k < 293 → ν' 3 k = ν 1 k) ∧ (∀ k, k < i → ν' 3 k = ν 3 k) := by
  intro n
  induction n with
  | zero =>
    intro i i0 hi f hf ν
    obtain ⟨f', rfl⟩ : ∃ f', f = f' + 1 := ⟨f - 1, by omega⟩
    refine ⟨ν, ?_, fun _ _ => rfl, fun k a b => by omega, fun _ _ => rfl⟩
    rw [f_X12_save_L2, lt_n (by omega) (by decide) (by omega)]
  | succ n ih =>
    intro i i0 hi f hf ν
    obtain ⟨f', rfl⟩ : ∃ f', f = f' + 1 := ⟨f - 1, by omega⟩
    obtain ⟨ν', h1, h2, h3, h4⟩ := ih (i + 1) (by omega) (by omega) f' (by omega) (st_ ν 3 i (ν 1 i))
    refine ⟨ν', ?_, fun q hq => ?_, fun k a b => ?_, fun k a => ?_⟩
    · rw [f_X12_save_L2, lt_y (by omega) (by decide) (by omega), rd_e (by omega) (by omega), wr_e (by omega) (by omega), nm_q]
      exact h1
    · rw [h2 q hq, st_n hq]
    · by_cases hk : k = i
      · rw [h4 k (by omega), hk, st_s, if_pos rfl]
      · rw [h3 k (by omega) b, st_n (by decide)]
    · rw [h4 k (by omega), st_s, if_neg (by omega)]
theorem l_rs {J : mu_T → Option (Int × mu_T)} : ∀ (n : Nat) (i : Int), 0 ≤ i → i + n = 293 → ∀ f : Nat, n < f → ∀ ν : mu_T, ∃ ν' : mu_T, f_X12_restore_L12 J f i ν = J ν' ∧ (∀ q, q ≠ 1 → ν' q = ν q) ∧ (∀ k, i ≤ k → k < 293 → ν' 1 k = ν 3 k) ∧ (∀ k, k < i → ν' 1 k = ν 1 k) := by
  intro n
  induction n with
  | zero =>
    intro i i0 hi f hf ν
    obtain ⟨f', rfl⟩ : ∃ f', f = f' + 1 := ⟨f - 1, by omega⟩
    refine ⟨ν, ?_, fun _ _ => rfl, fun k a b => by omega, fun _ _ => rfl⟩
    rw [f_X12_restore_L12, lt_n (by omega) (by decide) (by omega)]
  | succ n ih =>
    intro i i0 hi f hf ν
    obtain ⟨f', rfl⟩ : ∃ f', f = f' + 1 := ⟨f - 1, by omega⟩
    obtain ⟨ν', h1, h2, h3, h4⟩ := ih (i + 1) (by omega) (by omega) f' (by omega) (st_ ν 1 i (ν 3 i))
    refine ⟨ν', ?_, fun q hq => ?_, fun k a b => ?_, fun k a => ?_⟩
    · rw [f_X12_restore_L12, lt_y (by omega) (by decide) (by omega), rd_e (by omega) (by omega), wr_e (by omega) (by omega), nm_q]
      exact h1
    · rw [h2 q hq, st_n hq]
    · by_cases hk : k = i
      · rw [h4 k (by omega), hk, st_s, if_pos rfl]
      · rw [h3 k (by omega) b, st_n (by decide)]
    · rw [h4 k (by omega), st_s, if_neg (by omega)]
theorem p_undo : pf_undo RR_ := fun t μ ν _ hR => by
  obtain ⟨h1, h2, h3, h4, h5, h6⟩ := RR_skip t μ ν hR
  obtain ⟨g1, g2, g3, g4⟩ := id h3
  obtain ⟨F, hF, hF2⟩ := F_big
  unfold f_X11_undo f_X3_undoLatest f_X12_undo
  rw [← hF2, nm_q (μ 138 5), g2, nm_q (ν 0 4)]
  by_cases k0 : ν 0 4 = 0
  · rw [eq_y k0, eq_y k0, bp_some]
    exact ⟨-15, μ, ν, rfl, rfl, ⟨h1, h2, h3, h4, h5, h6⟩, Or.inl ⟨k0, rfl, rfl⟩⟩
  · -- where the heap comes from
    generalize hnx : (if 0 < μ 138 4 then μ 138 4 - 1 else 8) = nx
    have hnx0 : 0 ≤ nx ∧ nx ≤ 8 := by
      rw [← hnx]
      split <;> omega
    have hp0 : nx.toNat + 1 = hp_ (μ 138 4) 0 := by
      rw [← hnx]
      unfold hp_
      split <;> omega
    have hpm : ∀ m, 0 ≤ m → m < 7 → hp_ nx m = hp_ (μ 138 4) (m + 1) := fun m m0 m1 => by
      rw [← hnx]
      unfold hp_
      split <;> omega
    have w := g4 0 (by omega) (by omega)
    rw [← hp0] at w
    have hle := iv_le w.2
    obtain ⟨μ3, a1, a2, a3⟩ := c_copy (s := fun j => ν 4 (293 * (ν 0 4 - 1 - 0) + j)) (μ := st_ μ 138 4 nx) (i := 0) (j := nx.toNat + 1) (by omega)
    have a4 := a3 (hr_x (fun j hj => st_n (by omega)) w.1) hle.1.1 hle.2.1.1
    have m138 : μ3 138 = st_ μ 138 4 nx 138 := a2 138 (by omega)
    have m5 : μ3 138 5 = ν 0 4 := by rw [m138, st_s, if_neg (by decide), g2]
    have key : (wf_ μ 138 4 nx (fun μ29 => bd_ (f_X3_takeBack μ29) (fun μ33 => wf_ μ33 138 5 (μ33 138 5 - 1) (fun μ43 => (some (μ43 138 5, μ43) : Option (Int × mu_T)))))) = some (ν 0 4 - 1, st_ μ3 138 5 (ν 0 4 - 1)) := by
      have hc9 : f_X3_copyAtNext (st_ μ 138 4 nx) = some nx := by
        have q := e_copyAt (μ := st_ μ 138 4 nx) (by rw [st_s, if_pos rfl]; omega)
        rw [st_s, if_pos rfl] at q
        exact q
      unfold f_X3_takeBack
      rw [wf_e, hc9, bd_some, gd_e ⟨by omega, by omega⟩, a1, bd_some, bd_some, m5, wf_e, st_s, if_pos rfl]
    obtain ⟨ν3, b1, b2, b3, b4⟩ := l_ub (κ := ν 0 4 - 1) ⟨by omega, by omega⟩ 293 0 (by decide) (by decide) F (by omega) (st_ ν 0 4 (ν 0 4 - 1)) (by rw [st_s, if_pos rfl])
    have n0 : ∀ j, j ≠ 4 → ν3 0 j = ν 0 j := fun j hj => by rw [b2 0 (by decide), st_s, if_neg hj]
    have n04 : ν3 0 4 = ν 0 4 - 1 := by rw [b2 0 (by decide), st_s, if_pos rfl]
    have nn : ∀ q, q ≠ 0 → q ≠ 1 → ν3 q = ν q := fun q q0 q1 => by rw [b2 q q1, st_n q0]
    have mm : ∀ q, 12 ≤ q → q ≠ 138 → st_ μ3 138 5 (ν 0 4 - 1) q = μ q := fun q q0 q1 => by rw [st_n q1, a2 q (by omega), st_n q1]
    have m3 : st_ μ3 138 5 (ν 0 4 - 1) 138 3 = μ 138 3 := by rw [st_s, if_neg (by decide), m138, st_s, if_neg (by decide)]
    have m4 : st_ μ3 138 5 (ν 0 4 - 1) 138 4 = nx := by rw [st_s, if_neg (by decide), m138, st_s, if_pos rfl]
    refine ⟨ν 0 4 - 1, st_ μ3 138 5 (ν 0 4 - 1), ν3, ?_, ?_, ⟨?_, sd_k (Int.le_refl _) h2 (fun q q0 q1 => mm q (by omega) (by omega)) m3 (n0 5 (by decide)) (nn 3 (by decide) (by decide)), ?_, rs_k (mm 133 (by decide) (by decide)) (n0 12 (by decide)) (n0 13 (by decide)) h4, tx_k (mm 141 (by decide) (by decide)) (mm 142 (by decide) (by decide)) (n0 10 (by decide)) (nn 5 (by decide) (by decide)) h5, ln_k (mm 149 (by decide) (by decide)) (mm 150 (by decide) (by decide)) (n0 11 (by decide)) (nn 7 (by decide) (by decide)) h6⟩, Or.inr ⟨by omega, rfl, n04, fun j j0 j1 => ?_, fun m m0 m1 j j0 j1 => ?_, nn 3 (by decide) (by decide), n0 5 (by decide)⟩⟩
    · rw [eq_n (by omega) (by decide) k0]
      simp only [jn_e, nm_q]
      rw [lt_if (by decide) (by omega)]
      by_cases h0 : 0 < μ 138 4
      · rw [if_pos h0] at hnx ⊢
        rw [hnx, key, bp_some]
      · rw [if_neg h0] at hnx ⊢
        rw [hnx, key, bp_some]
    · rw [eq_n (by omega) (by decide) k0, nm_q, wf_e]
      exact b1
    · refine hv_x (s := fun j => ν 4 (293 * (ν 0 4 - 1 - 0) + j)) (fun j j0 j1 => ?_) ⟨hr_x (fun j hj => ?_) a4, w.2⟩
      · rw [b3 j j0 j1, st_n (by decide), Int.sub_zero]
      · show st_ μ3 138 5 (ν 0 4 - 1) j = μ3 (12 * 0 + j)
        rw [st_n (by omega), Nat.mul_zero, Nat.zero_add]
    · unfold hs_
      rw [m4, n04, nn 4 (by decide) (by decide)]
      refine ⟨hnx0, by rw [st_s, if_pos rfl], by omega, fun m m0 m1 => ?_⟩
      have z := g4 (m + 1) (by omega) (by omega)
      rw [← hpm m m0 (by omega), show ν 0 4 - 1 - (m + 1) = ν 0 4 - 1 - 1 - m by omega] at z
      have hpb : 1 ≤ hp_ nx m ∧ hp_ nx m ≤ 9 := by
        unfold hp_
        omega
      exact ⟨hr_x (fun j hj => mm (12 * hp_ nx m + j) (by omega) (by omega)) z.1, z.2⟩
    · show ν3 1 j = ν 4 (293 * (ν 0 4 - 1 - 0) + j)
      rw [b3 j j0 j1, st_n (by decide), Int.sub_zero]
    · show ν3 4 (293 * (ν3 0 4 - 1 - m) + j) = ν 4 (293 * (ν 0 4 - 1 - (m + 1)) + j)
      rw [nn 4 (by decide) (by decide), n04, show ν 0 4 - 1 - 1 - m = ν 0 4 - 1 - (m + 1) by omega]
theorem p_save : pf_save RR_ := fun t μ ν _ hR => by
  obtain ⟨h1, h2, h3, h4, h5, h6⟩ := RR_skip t μ ν hR
  obtain ⟨F, hF, hF2⟩ := F_big
  have hle := iv_le h1.2
  obtain ⟨μ3, a1, a2, a3⟩ := c_copy (s := ν 1) (μ := μ) (i := 10) (j := 0) (by decide)
  have a4 := a3 (hr_x (fun j hj => by rw [Nat.mul_zero, Nat.zero_add]) h1.1) hle.1.1 hle.2.1.1
  obtain ⟨ν3, b1, b2, b3, b4⟩ := l_sv (J := fun μ27 => wz_ μ27 0 5 1 (fun μ29 => bd_ (f_X12_manyUrns μ29) (fun v33 => some (v33, μ29)))) 293 0 (by decide) (by decide) F (by omega) ν
  have m0 : ∀ q, q ≠ 138 → (q < 120 ∨ 132 ≤ q) → st_ μ3 138 3 1 q = μ q := fun q q0 q1 => by rw [st_n q0, a2 q (by omega)]
  have m38 : ∀ j, j ≠ 3 → st_ μ3 138 3 1 138 j = μ 138 j := fun j hj => by rw [st_s, if_neg hj, a2 138 (by omega)]
  have n0 : ∀ j, j ≠ 5 → st_ ν3 0 5 1 0 j = ν 0 j := fun j hj => by rw [st_s, if_neg hj, b2 0 (by decide)]
  have nn : ∀ q, q ≠ 0 → q ≠ 3 → st_ ν3 0 5 1 q = ν q := fun q q0 q1 => by rw [st_n q0, b2 q q1]
  have n1 : st_ ν3 0 5 1 1 = ν 1 := nn 1 (by decide) (by decide)
  have hr1 : hr_ (fun r => st_ μ3 138 3 1 r) (ν 1) := hr_x (fun j hj => m0 j (by omega) (by omega)) h1.1
  refine ⟨nu_ (ν 1), st_ μ3 138 3 1, st_ ν3 0 5 1, ?_, ?_, ⟨?_, ?_, hs_k (Int.le_refl _) h3 (fun q q0 q1 => m0 q (by omega) (by omega)) (m38 4 (by decide)) (m38 5 (by decide)) (n0 4 (by decide)) (nn 4 (by decide) (by decide)), rs_k (m0 133 (by decide) (by decide)) (n0 12 (by decide)) (n0 13 (by decide)) h4, tx_k (m0 141 (by decide) (by decide)) (m0 142 (by decide) (by decide)) (n0 10 (by decide)) (nn 5 (by decide) (by decide)) h5, ln_k (m0 149 (by decide) (by decide)) (m0 150 (by decide) (by decide)) (n0 11 (by decide)) (nn 7 (by decide) (by decide)) h6⟩, rfl, n1, nn 4 (by decide) (by decide), n0 4 (by decide), by rw [st_s, if_pos rfl], fun j j0 j1 => by rw [st_n (by decide), b3 j j0 j1]⟩
  · unfold f_X11_save f_X3_saveNow
    rw [a1, bd_some, wz_e (Or.inr rfl), e_urns h1.2.1 hr1.2.2.2.1, bd_some, bp_some]
  · unfold f_X12_save
    rw [← hF2, jn_e, b1]
    show wz_ ν3 0 5 1 (fun μ29 => bd_ (f_X12_manyUrns μ29) (fun v33 => some (v33, μ29))) = _
    rw [wz_e (Or.inr rfl), e_many (by rw [n1]; exact h1.2.1), n1, bd_some]
  · rw [n1]
    exact ⟨hr1, h1.2⟩
  · unfold sd_
    have e5 : st_ ν3 0 5 1 0 5 = 1 := by rw [st_s, if_pos rfl]
    rw [e5]
    refine ⟨by rw [st_s, if_pos rfl], Or.inr ⟨rfl, ?_⟩⟩
    refine hv_x (s := ν 1) (fun j j0 j1 => ?_) ⟨hr_x (fun j hj => ?_) a4, h1.2⟩
    · rw [st_n (by decide), b3 j j0 j1]
    · show st_ μ3 138 3 1 (120 + j) = μ3 (12 * 10 + j)
      rw [st_n (by omega)]
theorem p_restore : pf_restore RR_ := fun t μ ν _ hR => by
  obtain ⟨h1, h2, h3, h4, h5, h6⟩ := RR_skip t μ ν hR
  obtain ⟨F, hF, hF2⟩ := F_big
  obtain ⟨s1, s2⟩ := id h2
  unfold f_X11_restore f_X3_restoreSaved f_X12_restore
  rw [← hF2, nm_q (μ 138 3), s1, nm_q (ν 0 5)]
  rcases s2 with e | ⟨e, hv⟩
  · rw [eq_y e, eq_y e, bp_some]
    exact ⟨-15, μ, ν, rfl, rfl, ⟨h1, h2, h3, h4, h5, h6⟩, fun q => absurd (e.symm.trans q) (by decide)⟩
  · have hle := iv_le hv.2
    obtain ⟨μ3, a1, a2, a3⟩ := c_copy (s := ν 3) (μ := μ) (i := 0) (j := 10) (by decide)
    have a4 := a3 (hr_x (fun j hj => rfl) hv.1) hle.1.1 hle.2.1.1
    obtain ⟨ν3, b1, b2, b3, b4⟩ := l_rs (J := fun μ37 => wf_ μ37 0 4 0 (fun μ39 => bd_ (f_X12_manyUrns μ39) (fun v43 => some (v43, μ39)))) 293 0 (by decide) (by decide) F (by omega) ν
    have mm : ∀ q, 12 ≤ q → q ≠ 138 → st_ μ3 138 5 0 q = μ q := fun q q0 q1 => by rw [st_n q1, a2 q (by omega)]
    have m38 : ∀ j, j ≠ 5 → st_ μ3 138 5 0 138 j = μ 138 j := fun j hj => by rw [st_s, if_neg hj, a2 138 (by omega)]
    have n0 : ∀ j, j ≠ 4 → st_ ν3 0 4 0 0 j = ν 0 j := fun j hj => by rw [st_s, if_neg hj, b2 0 (by decide)]
    have nn : ∀ q, q ≠ 0 → q ≠ 1 → st_ ν3 0 4 0 q = ν q := fun q q0 q1 => by rw [st_n q0, b2 q q1]
    have hv1 : hv_ (60 * ((t + 1 : Nat) : Int)) (fun r => st_ μ3 138 5 0 r) (st_ ν3 0 4 0 1) := by
      refine hv_x (s := ν 3) (fun j j0 j1 => ?_) ⟨hr_x (fun j hj => ?_) a4, hv.2⟩
      · rw [st_n (by decide), b3 j j0 j1]
      · show st_ μ3 138 5 0 j = μ3 (12 * 0 + j)
        rw [st_n (by omega), Nat.mul_zero, Nat.zero_add]
    refine ⟨nu_ (st_ ν3 0 4 0 1), st_ μ3 138 5 0, st_ ν3 0 4 0, ?_, ?_, ⟨hv1, sd_k (Int.le_refl _) h2 (fun q q0 q1 => mm q (by omega) (by omega)) (m38 3 (by decide)) (n0 5 (by decide)) (nn 3 (by decide) (by decide)), ?_, rs_k (mm 133 (by decide) (by decide)) (n0 12 (by decide)) (n0 13 (by decide)) h4, tx_k (mm 141 (by decide) (by decide)) (mm 142 (by decide) (by decide)) (n0 10 (by decide)) (nn 5 (by decide) (by decide)) h5, ln_k (mm 149 (by decide) (by decide)) (mm 150 (by decide) (by decide)) (n0 11 (by decide)) (nn 7 (by decide) (by decide)) h6⟩, fun _ => ⟨cn_eq 24 (fun c c0 c1 => by rw [st_n (by decide), b3 (17 + c) (by omega) (by omega)]), fun j j0 j1 => by rw [st_n (by decide), b3 j j0 j1], by rw [st_s, if_pos rfl]⟩⟩
    · rw [e, eq_n (by decide) (by decide) (by decide), a1, bd_some, wf_e, e_urns hv1.2.1 hv1.1.2.2.2.1, bd_some, bp_some]
    · rw [e, eq_n (by decide) (by decide) (by decide), jn_e, b1]
      show wf_ ν3 0 4 0 (fun μ39 => bd_ (f_X12_manyUrns μ39) (fun v43 => some (v43, μ39))) = _
      rw [wf_e, e_many hv1.2.1, bd_some]
    · unfold hs_
      obtain ⟨g1, g2, g3, g4⟩ := h3
      have z : st_ ν3 0 4 0 0 4 = 0 := by rw [st_s, if_pos rfl]
      rw [z, m38 4 (by decide)]
      exact ⟨g1, by rw [st_s, if_pos rfl], by omega, fun m m0 m1 => by omega⟩
end KP
