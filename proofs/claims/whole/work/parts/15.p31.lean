/-! lines -/
section LN
variable {μ ν : mu_T} {s : Int → Int} {t : Int}
theorem wb_e {α : Type} {μ : mu_T} {q : Nat} {i v : Int} {f : mu_T → Option α} (h : 0 ≤ i ∧ i < bl_ μ q) (h2 : bl_ μ q < 2147483648) : wb_ μ q i v f = f (st_ μ q i (i2b_ v)) := if_pos ⟨h, h2⟩
theorem bl_st {μ : mu_T} {q : Nat} {i v : Int} (h : 0 ≤ i) : bl_ (st_ μ q i v) q = bl_ μ q := by
  unfold bl_
  rw [st_s, if_neg (by omega)]
theorem e_size {x : Int} (hx : 0 ≤ x ∧ x < 24) : f_J6_stringSize_0f7a4 μ x = some (if x < 10 then 1 else 2) := by
  obtain ⟨F, hF, hF2⟩ := F_big
  obtain ⟨F', rfl⟩ : ∃ f', F = f' + 1 + 1 := ⟨F - 2, by omega⟩
  unfold f_J6_stringSize_0f7a4
  rw [← hF2]
  simp only [jn_e, nm_q]
  rw [lt_n (by omega) (by decide) (by omega), f_J6_stringSize_0f7a4_L16, lt_y (by decide) (by decide) (by decide)]
  by_cases h : x < 10
  · rw [lt_y (by decide) (by omega) (by omega), if_pos h]
    rfl
  · rw [lt_n (by decide) (by omega) (by omega), nm_q, nm_q, f_J6_stringSize_0f7a4_L16, lt_y (by decide) (by decide) (by decide), lt_y (by decide) (by omega) (by omega), if_neg h]
    rfl
theorem e_chars {x n : Int} (hx : 0 ≤ x ∧ x < 24) (hn : 0 ≤ n - (if x < 10 then 1 else 2) ∧ n ≤ bl_ μ 150) (hb : bl_ μ 150 < 2147483648) : ∃ r μ', f_J6_getChars_ba4f3_o150 μ x n = some (r, μ') ∧ (∀ q, q ≠ 150 → μ' q = μ q) ∧ bl_ μ' 150 = bl_ μ 150 ∧ ∀ k, μ' 150 k = if k = n - 1 then 48 + x % 10 else if ¬ x < 10 ∧ k = n - 2 then 48 + x / 10 else μ 150 k := by
  obtain ⟨F, hF, hF2⟩ := F_big
  obtain ⟨F', rfl⟩ : ∃ f', F = f' + 1 := ⟨F - 1, by omega⟩
  have i1 : i2b_ (48 + x % 10) = 48 + x % 10 := i2b_n (by omega)
  have i2 : i2b_ (48 + x / 10) = 48 + x / 10 := i2b_n (by omega)
  have hn1 : 0 ≤ n + (-1) ∧ n + (-1) < bl_ μ 150 := by
    split at hn <;> omega
  have e : f_J6_getChars_ba4f3_o150 μ x n = lt_ (-x) (-9) (gd_ (0 ≤ x ∧ x < 100) (wb_ (st_ μ 150 (n + (-1)) (48 + x % 10)) 150 (n + (-1) + (-1)) (48 + x / 10) (fun μ103 => some (n + (-1) + (-1), μ103)))) (some (n + (-1), st_ μ 150 (n + (-1)) (48 + x % 10))) := by
    unfold f_J6_getChars_ba4f3_o150
    rw [← hF2]
    simp only [jn_e, nm_q]
    rw [lt_n (by omega) (by decide) (by omega), eq_y rfl, f_J6_getChars_ba4f3_o150_L22, lt_y (by decide) (by omega) (by omega)]
    simp only [Int.neg_neg]
    rw [gd_e ⟨by omega, by omega⟩, wb_e hn1 hb, i1]
    simp only [eq_y]
  rw [e]
  by_cases h : x < 10
  · rw [lt_n (by omega) (by decide) (by omega)]
    refine ⟨_, _, rfl, fun q hq => st_n hq, bl_st hn1.1, fun k => ?_⟩
    rw [st_s]
    by_cases hk : k = n - 1
    · rw [if_pos (by omega), if_pos hk]
    · rw [if_neg (by omega), if_neg hk, if_neg (fun z => z.1 h)]
  · rw [if_neg h] at hn
    rw [lt_y (by omega) (by decide) (by omega), gd_e ⟨by omega, by omega⟩, wb_e (by rw [bl_st hn1.1]; omega) (by rw [bl_st hn1.1]; exact hb), i2]
    refine ⟨_, _, rfl, fun q hq => by rw [st_n hq, st_n hq], by rw [bl_st (by omega), bl_st hn1.1], fun k => ?_⟩
    rw [st_s, st_s]
    by_cases hk : k = n - 1
    · rw [if_neg (by omega), if_pos (by omega), if_pos hk]
    · by_cases hk2 : k = n - 2
      · rw [if_pos (by omega), if_neg hk, if_pos ⟨h, hk2⟩]
      · rw [if_neg (by omega), if_neg (by omega), if_neg hk, if_neg (fun z => hk2 z.2)]
/-- what a line's writing leaves alone -/
def f9_ (μ ν μ' ν' : mu_T) : Prop := (∀ q, q ≠ 149 → q ≠ 150 → μ' q = μ q) ∧ (∀ q, q ≠ 0 → q ≠ 7 → ν' q = ν q) ∧ ∀ j, j ≠ 11 → ν' 0 j = ν 0 j
theorem f9_t {μ2 ν2 μ3 ν3 : mu_T} (h : f9_ μ ν μ2 ν2) (h2 : f9_ μ2 ν2 μ3 ν3) : f9_ μ ν μ3 ν3 := ⟨fun q a b => (h2.1 q a b).trans (h.1 q a b), fun q a b => (h2.2.1 q a b).trans (h.2.1 q a b), fun j a => (h2.2.2 j a).trans (h.2.2 j a)⟩
theorem f9_r : f9_ μ ν μ ν := ⟨fun _ _ _ => rfl, fun _ _ _ => rfl, fun _ _ => rfl⟩
theorem e_writes {c : Int} (h : 0 ≤ ν 0 11 ∧ ν 0 11 < 60) : f_X12_writes ν c = some (st_ (st_ ν 7 (ν 0 11) c) 0 11 (ν 0 11 + 1)) := by
  unfold f_X12_writes
  have e0 : (st_ ν 7 (ν 0 11) c) 0 11 = ν 0 11 := by rw [st_n (by decide)]
  rw [nm_q, wr_e h.1 (by omega), nm_q, e0, wf_e]
theorem f9_w {c : Int} : (∀ q, q ≠ 0 → q ≠ 7 → (st_ (st_ ν 7 (ν 0 11) c) 0 11 (ν 0 11 + 1)) q = ν q) ∧ (∀ j, j ≠ 11 → (st_ (st_ ν 7 (ν 0 11) c) 0 11 (ν 0 11 + 1)) 0 j = ν 0 j) ∧ (st_ (st_ ν 7 (ν 0 11) c) 0 11 (ν 0 11 + 1)) 0 11 = ν 0 11 + 1 ∧ ∀ k, (st_ (st_ ν 7 (ν 0 11) c) 0 11 (ν 0 11 + 1)) 7 k = if k = ν 0 11 then c else ν 7 k :=
  ⟨fun q a b => by rw [st_n a, st_n b], fun j a => by rw [st_s, if_neg a, st_n (by decide)], by rw [st_s, if_pos rfl], fun k => by rw [st_n (by decide), st_s]⟩
/-- one character on both sides -/
theorem ln_ch {c : Int} (h : ln_ μ ν) (h6 : ν 0 11 < 60) (hc : 32 ≤ c ∧ c ≤ 126) : ∃ μ' ν', f_J4_append_cf468_o149g μ c = some μ' ∧ f_X12_writes ν c = some ν' ∧ ln_ μ' ν' ∧ ν' 0 11 = ν 0 11 + 1 ∧ f9_ μ ν μ' ν' := by
  obtain ⟨x1, x2, x3, x4, x5, x6⟩ := id h
  obtain ⟨μ', a1, a2, a3, a4, a5⟩ := e_ap149 (ln_sb h) (by omega) (c := c) (by omega)
  obtain ⟨w1, w2, w3, w4⟩ := f9_w (ν := ν) (c := c)
  refine ⟨μ', _, ?_, e_writes ⟨x3.1, h6⟩, ln_of (by rw [w3]; exact a3) (by rw [w3]; omega) (fun k k0 k1 => ?_), w3, a2, w1, w2⟩
  · unfold f_J4_append_cf468_o149g
    rw [a1, bd_some]
  · rw [w3] at k1
    rw [w4]
    by_cases hk : k = ν 0 11
    · rw [if_pos hk, hk, a4]
      omega
    · rw [if_neg hk, a5 k k0 (by omega)]
      exact x5 k k0 (by omega)
/-- one number on both sides -/
theorem ln_nu {x : Int} (h : ln_ μ ν) (h6 : ν 0 11 < 59) (hx : 0 ≤ x ∧ x < 24) : ∃ μ' ν', f_J4_append_bf812_o149g μ x = some μ' ∧ f_X12_writesNumber ν x = some ν' ∧ ln_ μ' ν' ∧ ν' 0 11 ≤ ν 0 11 + 2 ∧ f9_ μ ν μ' ν' := by
  obtain ⟨x1, x2, x3, x4, x5, x6⟩ := id h
  have hd : (if x < 10 then (1 : Int) else 2) = 1 ∧ x < 10 ∨ (if x < 10 then (1 : Int) else 2) = 2 ∧ ¬ x < 10 := by
    by_cases h : x < 10
    · exact Or.inl ⟨if_pos h, h⟩
    · exact Or.inr ⟨if_neg h, h⟩
  generalize hdd : (if x < 10 then (1 : Int) else 2) = d at hd
  obtain ⟨μ7, a1, a2, a3, a4, a5⟩ := e_en149 (ln_sb h) (a := ν 0 11 + d) (by omega) (by omega) (by omega)
  obtain ⟨t1, t2, t3, t4, t5⟩ := a3
  obtain ⟨r, μ8, b1, b2, b3, b4⟩ := e_chars (μ := μ7) (x := x) (n := ν 0 11 + d) hx (by rw [hdd]; omega) (by omega)
  have eL : f_J5_isLatin1_aae02_o149 μ7 = some 1 := by
    unfold f_J5_isLatin1_aae02_o149
    rw [eq_n (by decide) (by decide) (by decide), nm_q, t1, eq_y rfl]
  have eX : f_J4_append_bf812_o149g μ x = some (st_ μ8 149 3 (ν 0 11 + d)) := by
    unfold f_J4_append_bf812_o149g f_J5_append_c97b9_o149g
    rw [nm_q, x2, e_size hx, hdd, bd_some, nm_q, a1, bd_some, eL, bd_some]
    simp only [jn_e]
    rw [eq_n (by decide) (by decide) (by decide), b1, bp_some, wf_e, bd_some]
  have sbx : sb_ (st_ μ8 149 3 (ν 0 11 + d)) 149 150 (ν 0 11 + d) := by
    have eb : bl_ (st_ μ8 149 3 (ν 0 11 + d)) 150 = bl_ μ7 150 := by
      rw [← b3]
      unfold bl_
      rw [st_n (by decide)]
    refine ⟨?_, by rw [st_s, if_pos rfl], by rw [eb]; omega, by rw [eb]; exact t4, fun k k0 k1 => ?_⟩
    · rw [st_s, if_neg (by decide), b2 149 (by decide)]
      exact t1
    · rw [eb] at k1
      rw [st_n (by decide), b4]
      have w := t5 k k0 k1
      split
      · omega
      · split <;> omega
  have byX : ∀ k, 0 ≤ k → k < ν 0 11 → (st_ μ8 149 3 (ν 0 11 + d)) 150 k = ν 7 k ∧ 32 ≤ ν 7 k ∧ ν 7 k ≤ 126 := fun k k0 k1 => by
    rw [st_n (by decide), b4, if_neg (by omega), if_neg (by omega), a5 k k0 k1]
    exact x5 k k0 k1
  have frX : ∀ q, q ≠ 149 → q ≠ 150 → (st_ μ8 149 3 (ν 0 11 + d)) q = μ q := fun q q0 q1 => by rw [st_n q0, b2 q q1, a2 q q1]
  rcases hd with ⟨hd1, hd2⟩ | ⟨hd1, hd2⟩
  · obtain ⟨w1, w2, w3, w4⟩ := f9_w (ν := ν) (c := 48 + x % 10)
    refine ⟨_, _, eX, ?_, ln_of (by rw [w3, ← hd1]; exact sbx) (by rw [w3]; omega) (fun k k0 k1 => ?_), by rw [w3]; omega, frX, w1, w2⟩
    · unfold f_X12_writesNumber
      rw [jn_e, lt_n (by decide) (by omega) (by omega)]
      show rm_ x 10 (fun v23 => bd_ (f_X12_writes ν (48 + v23)) (fun μ25 => some μ25)) = _
      rw [rm_e (by omega) (by decide) hx.1 (by decide), e_writes ⟨x3.1, by omega⟩, bd_some]
    · rw [w3] at k1
      rw [w4]
      by_cases hk : k = ν 0 11
      · rw [if_pos hk, st_n (by decide), b4, if_pos (by omega)]
        omega
      · rw [if_neg hk]
        exact byX k k0 (by omega)
  · obtain ⟨w1, w2, w3, w4⟩ := f9_w (ν := ν) (c := 48 + x / 10)
    generalize hν2 : st_ (st_ ν 7 (ν 0 11) (48 + x / 10)) 0 11 (ν 0 11 + 1) = ν2 at w1 w2 w3 w4
    obtain ⟨z1, z2, z3, z4⟩ := f9_w (ν := ν2) (c := 48 + x % 10)
    refine ⟨_, _, eX, ?_, ln_of (by rw [z3, w3, show ν 0 11 + 1 + 1 = ν 0 11 + d by omega]; exact sbx) (by rw [z3, w3]; omega) (fun k k0 k1 => ?_), by rw [z3, w3]; omega, frX, fun q q0 q1 => (z1 q q0 q1).trans (w1 q q0 q1), fun j j0 => (z2 j j0).trans (w2 j j0)⟩
    · unfold f_X12_writesNumber
      rw [jn_e, lt_y (by decide) (by omega) (by omega), dv_e (by omega) (by decide) hx.1 (by decide), e_writes ⟨x3.1, by omega⟩, bd_some, hν2]
      show rm_ x 10 (fun v23 => bd_ (f_X12_writes ν2 (48 + v23)) (fun μ25 => some μ25)) = _
      rw [rm_e (by omega) (by decide) hx.1 (by decide), e_writes (by rw [w3]; omega), bd_some]
    · rw [z3, w3] at k1
      rw [z4, w4, w3]
      by_cases hk : k = ν 0 11 + 1
      · rw [if_pos hk, st_n (by decide), b4, if_pos (by omega)]
        omega
      · rw [if_neg hk]
        by_cases hk2 : k = ν 0 11
        · rw [if_pos hk2, st_n (by decide), b4, if_neg (by omega), if_pos ⟨hd2, by omega⟩]
          omega
        · rw [if_neg hk2]
          exact byX k k0 (by omega)
/-- a line is begun -/
theorem ln_0 (h : ln_ μ ν) : ∃ μ', f_J4_setLength_d00df_o149 μ 0 = some μ' ∧ ln_ μ' (st_ ν 0 11 0) ∧ f9_ μ ν μ' (st_ ν 0 11 0) ∧ (st_ ν 0 11 0) 0 11 = 0 := by
  obtain ⟨μ', a1, a2, a3⟩ := e_sl149 (ln_sb h)
  have e : (st_ ν 0 11 0) 0 11 = 0 := by rw [st_s, if_pos rfl]
  refine ⟨μ', a1, ln_of (by rw [e]; exact a3) (by rw [e]; decide) (fun k k0 k1 => ?_), ⟨fun q q0 q1 => a2 q q0, fun q q0 q1 => st_n q0, fun j j0 => by rw [st_s, if_neg j0]⟩, e⟩
  rw [e] at k1
  omega
theorem RR_ln {t : Nat} {μ1 ν1 : mu_T} (hR : RR_ t μ ν) (h : f9_ μ ν μ1 ν1) (hl : ln_ μ1 ν1) : RR_ (t + 1) μ1 ν1 := RR_tl hR (fun q q0 q1 => h.1 q (by omega) (by omega)) (fun q q0 q1 q2 _ _ => h.2.1 q q0 q2) (fun j _ j1 _ => h.2.2 j j1) (tx_k (h.1 141 (by decide) (by decide)) (h.1 142 (by decide) (by decide)) (h.2.2 10 (by decide)) (h.2.1 5 (by decide) (by decide)) (RR_skip t μ ν hR).2.2.2.2.1) hl
-- the heap in a line
theorem l_th (hT : iv_T (ν 1)) (hh : ∀ c, 0 ≤ c → c < 24 → μ 4 c = if ν 1 (17 + c) = 0 then -1 else ν 1 (41 + c)) : ∀ (n : Nat) (i : Int), 0 ≤ i → i + n = 24 → ∀ f g : Nat, n < f → n < g → ∀ (κ l : mu_T), f9_ μ ν κ l → ln_ κ l → l 0 11 = i → ∃ (r : Int) (κ' l' : mu_T), f_X5_writeHeap_o148o0g_L10 (fun μ39 => bd_ (f_J4_length_8abf5_o149 μ39) (fun v43 => some (v43, μ39))) f i κ = some (r, κ') ∧ f_X12_tellHeap_L7 g i l = some (r, l') ∧ f9_ μ ν κ' l' ∧ ln_ κ' l' := by
  intro n
  induction n with
  | zero =>
    intro i i0 hi f g hf hg κ l h9 hl hi2
    obtain ⟨f', rfl⟩ : ∃ f', f = f' + 1 := ⟨f - 1, by omega⟩
    obtain ⟨g', rfl⟩ : ∃ f', g = f' + 1 := ⟨g - 1, by omega⟩
    refine ⟨l 0 11, κ, l, ?_, ?_, h9, hl⟩
    · rw [f_X5_writeHeap_o148o0g_L10, lt_n (by omega) (by decide) (by omega), e_ln149 (ln_sb hl), bd_some]
    · rw [f_X12_tellHeap_L7, lt_n (by omega) (by decide) (by omega), nm_q]
  | succ n ih =>
    intro i i0 hi f g hf hg κ l h9 hl hi2
    obtain ⟨f', rfl⟩ : ∃ f', f = f' + 1 := ⟨f - 1, by omega⟩
    obtain ⟨g', rfl⟩ : ∃ f', g = f' + 1 := ⟨g - 1, by omega⟩
    have w := hT i i0 (by omega)
    have k4 : κ 4 = μ 4 := h9.1 4 (by decide) (by decide)
    have l1 : l 1 = ν 1 := h9.2.1 1 (by decide) (by decide)
    have key : ∀ c : Int, (32 ≤ c ∧ c ≤ 126) → f_X5_letterOf κ (κ 4 i) = some c → f_X12_tellHeap_L7 (g' + 1) i l = bd_ (f_X12_writes l c) (fun μ68 => f_X12_tellHeap_L7 g' (i + 1) μ68) → ∃ (r : Int) (κ' l' : mu_T), f_X5_writeHeap_o148o0g_L10 (fun μ39 => bd_ (f_J4_length_8abf5_o149 μ39) (fun v43 => some (v43, μ39))) (f' + 1) i κ = some (r, κ') ∧ f_X12_tellHeap_L7 (g' + 1) i l = some (r, l') ∧ f9_ μ ν κ' l' ∧ ln_ κ' l' := fun c hc e1 e2 => by
      obtain ⟨κ2, l2, a1, a2, a3, a4, a5⟩ := ln_ch hl (by omega) hc
      obtain ⟨r, κ', l', b1, b2, b3, b4⟩ := ih (i + 1) (by omega) (by omega) f' g' (by omega) (by omega) κ2 l2 (f9_t h9 a5) a3 (by omega)
      refine ⟨r, κ', l', ?_, ?_, b3, b4⟩
      · rw [f_X5_writeHeap_o148o0g_L10, lt_y (by omega) (by decide) (by omega), rd_e i0 (by omega), e1, bd_some, a1, bd_some, nm_q]
        exact b1
      · rw [e2, a2, bd_some]
        exact b2
    have e4 := hh i i0 (by omega)
    have eM : f_X12_tellHeap_L7 (g' + 1) i l = eq_ (ν 1 (17 + i)) 0 (bd_ (f_X12_writes l 46) (fun μ68 => f_X12_tellHeap_L7 g' (i + 1) μ68)) (eq_ (ν 1 (41 + i)) 0 (bd_ (f_X12_writes l 119) (fun μ68 => f_X12_tellHeap_L7 g' (i + 1) μ68)) (eq_ (ν 1 (41 + i)) 1 (bd_ (f_X12_writes l 103) (fun μ68 => f_X12_tellHeap_L7 g' (i + 1) μ68)) (bd_ (f_X12_writes l 98) (fun μ68 => f_X12_tellHeap_L7 g' (i + 1) μ68)))) := by
      rw [f_X12_tellHeap_L7, lt_y (by omega) (by decide) (by omega), rd_e (by omega) (by omega), l1]
      simp only [jn_e, nm_q]
      rw [rd_e (by omega) (by omega), l1, rd_e (by omega) (by omega), l1]
    by_cases h0 : ν 1 (17 + i) = 0
    · rw [if_pos h0] at e4
      refine key 46 (by decide) ?_ (by rw [eM, eq_y h0])
      rw [k4, e4]
      rfl
    · rw [if_neg h0] at e4
      rcases (show ν 1 (41 + i) = 0 ∨ ν 1 (41 + i) = 1 ∨ ν 1 (41 + i) = 2 by omega) with z | z | z
      · refine key 119 (by decide) ?_ (by rw [eM, eq_n (by omega) (by decide) h0, eq_y z])
        rw [k4, e4, z]
        rfl
      · refine key 103 (by decide) ?_ (by rw [eM, eq_n (by omega) (by decide) h0, eq_n (by omega) (by decide) (by omega), eq_y z])
        rw [k4, e4, z]
        rfl
      · refine key 98 (by decide) ?_ (by rw [eM, eq_n (by omega) (by decide) h0, eq_n (by omega) (by decide) (by omega), eq_n (by omega) (by decide) (by omega)])
        rw [k4, e4, z]
        rfl
theorem p_tellHeap : pf_tellHeap RR_ := fun t μ ν _ hR => by
  have hS := RR_skip t μ ν hR
  obtain ⟨hr, hI⟩ : hr_ μ (ν 1) ∧ iv_ (60 * ((t + 1 : Nat) : Int)) (ν 1) := hS.1
  obtain ⟨F, hF, hF2⟩ := F_big
  obtain ⟨μ0, a1, a2, a3, a4⟩ := ln_0 hS.2.2.2.2.2
  obtain ⟨r, κ', l', b1, b2, b3, b4⟩ := l_th hI.1 hr.2.2.2.1 24 0 (by decide) (by decide) 25 F (by decide) (by omega) μ0 (st_ ν 0 11 0) a3 a2 a4
  refine ⟨r, κ', l', ?_, ?_, RR_ln hR b3 b4⟩
  · unfold f_X11_tellHeapg f_X5_writeHeap_o148o0g
    rw [a1, bd_some, jn_e, b1, bp_some]
  · unfold f_X12_tellHeap
    rw [← hF2, wf_e]
    exact b2
-- an urn in a line
theorem c_tgt {κ l : mu_T} {x : Int} (hx : x = -15 ∨ (0 ≤ x ∧ x < 24)) (hl : ln_ κ l) (h6 : l 0 11 < 59) : ∃ κ' l', f_X5_writeTargetg κ x = some κ' ∧ eq_ x (-15) (bd_ (f_X12_writes l 45) (fun μ98 => some μ98)) (bd_ (f_X12_writesNumber l x) (fun μ115 => some μ115)) = some l' ∧ ln_ κ' l' ∧ l' 0 11 ≤ l 0 11 + 2 ∧ f9_ κ l κ' l' := by
  unfold f_X5_writeTargetg
  by_cases h : x = -15
  · obtain ⟨κ', l', a1, a2, a3, a4, a5⟩ := ln_ch (c := 45) hl (by omega) (by decide)
    refine ⟨κ', l', ?_, ?_, a3, by omega, a5⟩
    · rw [eq_y h, a1, bd_some]
    · rw [eq_y h, a2, bd_some]
  · obtain ⟨κ', l', a1, a2, a3, a4, a5⟩ := ln_nu hl h6 (x := x) (by omega)
    refine ⟨κ', l', ?_, ?_, a3, a4, a5⟩
    · rw [eq_n (by omega) (by decide) h, a1, bd_some]
    · rw [eq_n (by omega) (by decide) h, a2, bd_some]
theorem bd_eq_ {α β : Type} {a b : Int} {t f : Option α} {g : α → Option β} : bd_ (eq_ a b t f) g = eq_ a b (bd_ t g) (bd_ f g) := by
  unfold eq_
  split
  · rfl
  · split <;> rfl
theorem bd_id {β : Type} {x : Option mu_T} {g : mu_T → Option β} : bd_ (bd_ x (fun m => some m)) g = bd_ x g := by
  cases x <;> rfl
theorem l_tl (hr1 : ∀ k, 0 ≤ k → k < 96 → μ 1 k = ν 1 (137 + k)) (ht : ∀ k, 0 ≤ k → k < 96 → ν 1 (137 + k) = -15 ∨ (0 ≤ ν 1 (137 + k) ∧ ν 1 (137 + k) < 24)) {a : Int} (ha : 0 ≤ a ∧ a < 24) {J J' : mu_T → Option (Int × mu_T)} : ∀ (n : Nat) (i : Int), 1 ≤ i → i + n = 4 → ∀ f g : Nat, n < f → n < g → ∀ (κ l : mu_T), f9_ μ ν κ l → ln_ κ l → l 0 11 + 3 * n < 59 → ∃ (κ' l' : mu_T), f_X5_writeUrn_o148o0g_L25 J a f i κ = J κ' ∧ f_X12_tell_L65 J' a g i l = J' l' ∧ f9_ μ ν κ' l' ∧ ln_ κ' l' ∧ l' 0 11 ≤ l 0 11 + 3 * n := by
  intro n
  induction n with
  | zero =>
    intro i i0 hi f g hf hg κ l h9 hl h6
    obtain ⟨f', rfl⟩ : ∃ f', f = f' + 1 := ⟨f - 1, by omega⟩
    obtain ⟨g', rfl⟩ : ∃ f', g = f' + 1 := ⟨g - 1, by omega⟩
    refine ⟨κ, l, ?_, ?_, h9, hl, by omega⟩
    · rw [f_X5_writeUrn_o148o0g_L25, lt_n (by omega) (by decide) (by omega)]
    · rw [f_X12_tell_L65, lt_n (by omega) (by decide) (by omega)]
  | succ n ih =>
    intro i i0 hi f g hf hg κ l h9 hl h6
    obtain ⟨f', rfl⟩ : ∃ f', f = f' + 1 := ⟨f - 1, by omega⟩
    obtain ⟨g', rfl⟩ : ∃ f', g = f' + 1 := ⟨g - 1, by omega⟩
    have ei : (137 + (4 * a)) + i = 137 + (a * 4 + i) := by omega
    obtain ⟨κ2, l2, a1, a2, a3, a4, a5⟩ := ln_ch (c := 44) hl (by omega) (by decide)
    have h92 := f9_t h9 a5
    obtain ⟨κ3, l3, b1, b2, b3, b4, b5⟩ := c_tgt (ht (a * 4 + i) (by omega) (by omega)) a3 (by omega)
    obtain ⟨κ', l', c1, c2, c3, c4, c5⟩ := ih (i + 1) (by omega) (by omega) f' g' (by omega) (by omega) κ3 l3 (f9_t h92 b5) b3 (by omega)
    have k1 : κ2 1 = μ 1 := h92.1 1 (by decide) (by decide)
    have l1 : l2 1 = ν 1 := h92.2.1 1 (by decide) (by decide)
    refine ⟨κ', l', ?_, ?_, c3, c4, by omega⟩
    · rw [f_X5_writeUrn_o148o0g_L25, lt_y (by omega) (by decide) (by omega)]
      simp only [jn_e, nm_q]
      rw [eq_n (by omega) (by decide) (by omega), a1, bd_some, e_target (s := ν 1) (by rw [k1]; exact hr1) (by omega) (by omega), bd_some, if_pos ⟨ha, by omega, by omega⟩, b1, bd_some]
      exact c1
    · rw [f_X12_tell_L65, lt_y (by omega) (by decide) (by omega)]
      simp only [jn_e, nm_q]
      rw [lt_y (by decide) (by omega) (by omega), a2, bd_some, e_at, bd_some, rd_e (by omega) (by omega), l1, ei]
      have b2' := congrArg (fun z => bd_ z (fun m => f_X12_tell_L65 J' a g' (i + 1) m)) b2
      simp only [bd_eq_, bd_id, bd_some] at b2'
      rw [bd_some, rd_e (by omega) (by omega), l1]
      exact b2'.trans c2
end LN
