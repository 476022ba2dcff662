/-! the relation between the two memories, and what all acts do before and behind -/
def hv_ (t : Int) (h : Nat → Int → Int) (s : Int → Int) : Prop := hr_ h s ∧ iv_ t s
theorem hv_mono {t t' : Int} {h : Nat → Int → Int} {s : Int → Int} (ht : t ≤ t') (hv : hv_ t h s) : hv_ t' h s := ⟨hv.1, iv_mono ht hv.2⟩
theorem iv_le {t : Int} {s : Int → Int} (hI : iv_ t s) : (s 8 ≤ 24 ∧ 0 ≤ s 8) ∧ (s 9 ≤ 24 ∧ 0 ≤ s 9) ∧ (s 10 ≤ 12 ∧ 0 ≤ s 10) := by
  obtain ⟨hT, hP, hH, hW, hM, hD, hG, hL, hC⟩ := hI
  have a := cn_le (fun c => decide (s (41 + c) = 1)) 24
  have b := cn_le (fun c => decide (s (65 + c) = 2)) 24
  have c := hG.1
  have d := hD.1
  obtain ⟨l0, l1, l2⟩ := hL
  refine ⟨⟨by omega, by omega⟩, ⟨by omega, by omega⟩, ?_⟩
  by_cases h : s 4 ≤ 12
  · have := l1 h
    omega
  · have := l2 (by omega)
    omega
theorem iv_x {t : Int} {s s' : Int → Int} (h : ∀ j, 0 ≤ j → j < 293 → s' j = s j) (hI : iv_ t s) : iv_ t s' := by
  have hle := iv_le hI
  obtain ⟨hT, hP, hH, hW, hM, hD, hG, hL, hC⟩ := hI
  exact ⟨iv_T_k (fun j a b => h j (by omega) (by omega)) hT, iv_P_k ⟨h 0 (by omega) (by omega), h 1 (by omega) (by omega)⟩ hP, iv_H_k (fun j a b => h j (by omega) (by omega)) (fun k a b => Or.inl (h _ (by omega) (by omega))) hH, iv_W_k ⟨h 0 (by omega) (by omega), h 1 (by omega) (by omega)⟩ (fun j a b => h j (by omega) (by omega)) (fun c a b => Or.inl (h _ (by omega) (by omega))) hW, iv_M_k ⟨h 0 (by omega) (by omega), h 1 (by omega) (by omega)⟩ (fun j a b => h j (by omega) (by omega)) (fun c a b => Or.inl (h _ (by omega) (by omega))) hM, iv_D_k ⟨h 0 (by omega) (by omega), h 1 (by omega) (by omega)⟩ (h 9 (by omega) (by omega)) (fun j a b => h j (by omega) (by omega)) (fun k a b => h _ (by omega) (by omega)) hD, iv_G_k (h 0 (by omega) (by omega)) (h 8 (by omega) (by omega)) (fun j a b => h j (by omega) (by omega)) (fun k a b => h _ (by omega) (by omega)) hG, iv_L_k (h 4 (by omega) (by omega)) (h 10 (by omega) (by omega)) hL, iv_C_k (h 3 (by omega) (by omega)) (h 4 (by omega) (by omega)) (fun j a b => h j (by omega) (by omega)) hC⟩
theorem hv_x {t : Int} {g : Nat → Int → Int} {s s' : Int → Int} (h : ∀ j, 0 ≤ j → j < 293 → s' j = s j) (hv : hv_ t g s) : hv_ t g s' := by
  have hle := iv_le hv.2
  refine ⟨?_, iv_x h hv.2⟩
  obtain ⟨r1, r2, r3, r4, r5, r6, r7, ⟨r8, r9⟩, ⟨r10, r11⟩, r12, r13, r14, r15, r16, r17, r18, r19⟩ := hv.1
  have e8 := h 8 (by omega) (by omega)
  have e9 := h 9 (by omega) (by omega)
  have e10 := h 10 (by omega) (by omega)
  have e4 := h 4 (by omega) (by omega)
  refine ⟨fun k k0 k1 => ?_, fun k k0 k1 => ?_, fun k k0 k1 => ?_, fun k k0 k1 => ?_, fun k k0 k1 kt => ?_, fun k k0 k1 => ?_, fun k k0 k1 => ?_, ⟨by rw [e8]; exact r8, fun k k0 k1 => ?_⟩, ⟨by rw [e9]; exact r10, fun k k0 k1 => ?_⟩, ?_, ?_, ?_, ?_, ?_, ?_, ?_, ?_⟩
  · rw [h _ (by omega) (by omega)]
    exact r1 k k0 k1
  · rw [h _ (by omega) (by omega)]
    exact r2 k k0 k1
  · rw [h _ (by omega) (by omega)]
    exact r3 k k0 k1
  · rw [h (17 + k) (by omega) (by omega), h (41 + k) (by omega) (by omega)]
    exact r4 k k0 k1
  · rw [h _ (by omega) (by omega)] at kt
    rw [h _ (by omega) (by omega)]
    exact r5 k k0 k1 kt
  · rw [h _ (by omega) (by omega)]
    exact r6 k k0 k1
  · rw [e10] at k1
    rw [e4, h (281 + k) (by omega) (by omega)]
    exact r7 k k0 k1
  · rw [e8] at k1
    rw [h _ (by omega) (by omega)]
    exact r9 k k0 k1
  · rw [e9] at k1
    rw [h _ (by omega) (by omega)]
    exact r11 k k0 k1
  · rw [h 0 (by omega) (by omega)]
    exact r12
  · rw [h 1 (by omega) (by omega)]
    exact r13
  · rw [h 2 (by omega) (by omega)]
    exact r14
  · rw [h 3 (by omega) (by omega)]
    exact r15
  · rw [e4]
    exact r16
  · rw [h 5 (by omega) (by omega)]
    exact r17
  · rw [h 6 (by omega) (by omega)]
    exact r18
  · rw [h 7 (by omega) (by omega)]
    exact r19
/-- the place of the heap that was kept m changes ago -/
def hp_ (nx : Int) (m : Int) : Nat := (1 + (nx + 8 - m) % 9).toNat
def tx_ (μ ν : mu_T) : Prop := μ 141 1 = 0 ∧ μ 141 3 = ν 0 10 ∧ (0 ≤ ν 0 10 ∧ ν 0 10 ≤ 60 ∧ ν 0 10 ≤ bl_ μ 142) ∧ (bl_ μ 142 = 16 ∨ bl_ μ 142 = 34 ∨ bl_ μ 142 = 70) ∧ (∀ k, 0 ≤ k → k < ν 0 10 → μ 142 k = ν 5 k ∧ 32 ≤ ν 5 k ∧ ν 5 k ≤ 126) ∧ ∀ k, 0 ≤ k → k < bl_ μ 142 → -128 ≤ μ 142 k ∧ μ 142 k ≤ 127
def ln_ (μ ν : mu_T) : Prop := μ 149 1 = 0 ∧ μ 149 3 = ν 0 11 ∧ (0 ≤ ν 0 11 ∧ ν 0 11 ≤ 60 ∧ ν 0 11 ≤ bl_ μ 150) ∧ (bl_ μ 150 = 16 ∨ bl_ μ 150 = 34 ∨ bl_ μ 150 = 70) ∧ (∀ k, 0 ≤ k → k < ν 0 11 → μ 150 k = ν 7 k ∧ 32 ≤ ν 7 k ∧ ν 7 k ≤ 126) ∧ ∀ k, 0 ≤ k → k < bl_ μ 150 → -128 ≤ μ 150 k ∧ μ 150 k ≤ 127
def sd_ (t : Int) (μ ν : mu_T) : Prop := μ 138 3 = ν 0 5 ∧ (ν 0 5 = 0 ∨ (ν 0 5 = 1 ∧ hv_ t (fun r => μ (120 + r)) (ν 3)))
def hs_ (t : Int) (μ ν : mu_T) : Prop := (0 ≤ μ 138 4 ∧ μ 138 4 ≤ 8) ∧ μ 138 5 = ν 0 4 ∧ (0 ≤ ν 0 4 ∧ ν 0 4 ≤ 8) ∧ ∀ m, 0 ≤ m → m < ν 0 4 → hv_ t (fun r => μ (12 * hp_ (μ 138 4) m + r)) (fun j => ν 4 (293 * (ν 0 4 - 1 - m) + j))
def rs_2 (μ ν : mu_T) : Prop := (ν 0 12 = 0 ∧ μ 133 0 = -15 ∧ μ 133 1 = -15) ∨ ((0 < ν 0 12 ∧ ν 0 12 < 100) ∧ μ 133 0 = ν 0 12 ∧ μ 133 1 = ν 0 13)
def RR_ (t : Nat) (μ ν : mu_T) : Prop := hv_ (60 * t) (fun r => μ r) (ν 1) ∧ sd_ (60 * t) μ ν ∧ hs_ (60 * t) μ ν ∧ rs_2 μ ν ∧ tx_ μ ν ∧ ln_ μ ν
theorem RR_skip (t : Nat) (μ ν : mu_T) (h : RR_ t μ ν) : RR_ (t + 1) μ ν := by
  obtain ⟨h1, ⟨s1, s2⟩, ⟨g1, g2, g3, g4⟩, h4⟩ := h
  have ht : (60 * (t : Int)) ≤ 60 * ((t + 1 : Nat) : Int) := by omega
  exact ⟨hv_mono ht h1, ⟨s1, s2.imp id (fun q => ⟨q.1, hv_mono ht q.2⟩)⟩, ⟨g1, g2, g3, fun m a b => hv_mono ht (g4 m a b)⟩, h4⟩
theorem tx_k {μ ν μ1 ν1 : mu_T} (h1 : μ1 141 = μ 141) (h2 : μ1 142 = μ 142) (h3 : ν1 0 10 = ν 0 10) (h4 : ν1 5 = ν 5) (h : tx_ μ ν) : tx_ μ1 ν1 := by
  unfold tx_ bl_
  rw [h1, h2, h3, h4]
  exact h
theorem ln_k {μ ν μ1 ν1 : mu_T} (h1 : μ1 149 = μ 149) (h2 : μ1 150 = μ 150) (h3 : ν1 0 11 = ν 0 11) (h4 : ν1 7 = ν 7) (h : ln_ μ ν) : ln_ μ1 ν1 := by
  unfold ln_ bl_
  rw [h1, h2, h3, h4]
  exact h
theorem e_isRefusal {μ : mu_T} {a : Int} (ha : rg_ a) : f_X3_isRefusal μ a = some (tr_ (a = -11 ∨ a = -12 ∨ a = -14)) := by
  unfold f_X3_isRefusal
  rw [eq_if ha (by decide), eq_if ha (by decide), eq_if ha (by decide)]
  by_cases h1 : a = -11
  · rw [if_pos h1, tr_y (Or.inl h1)]
  · rw [if_neg h1]
    by_cases h2 : a = -12
    · rw [if_pos h2, tr_y (Or.inr (Or.inl h2))]
    · rw [if_neg h2]
      by_cases h3 : a = -14
      · rw [if_pos h3, tr_y (Or.inr (Or.inr h3))]
      · rw [if_neg h3, tr_n (fun q => by omega)]
/-- a change is counted -/
theorem e_settle {μ : mu_T} {a : Int} (ha : rg_ a) (hn : a ≠ -11 ∧ a ≠ -12 ∧ a ≠ -14) (h4 : 0 ≤ μ 138 4 ∧ μ 138 4 ≤ 8) (h5 : 0 ≤ μ 138 5 ∧ μ 138 5 ≤ 8) : f_X3_settle μ a = some (a, st_ (st_ μ 138 4 (if μ 138 4 < 8 then μ 138 4 + 1 else 0)) 138 5 (if μ 138 5 = 8 then 8 else μ 138 5 + 1)) := by
  unfold f_X3_settle
  rw [e_isRefusal ha, bd_some, tr_0, if_neg (fun q => by omega)]
  simp only [nm_q, jn_e, wf_e]
  have key : ∀ x : Int, (mn_ ((st_ μ 138 4 x) 138 5 + 1) 8 (fun v39 => (some (a, st_ (st_ μ 138 4 x) 138 5 v39) : Option (Int × mu_T)))) = some (a, st_ (st_ μ 138 4 x) 138 5 (if μ 138 5 = 8 then 8 else μ 138 5 + 1)) := fun x => by
    have e : (st_ μ 138 4 x) 138 5 = μ 138 5 := by rw [st_s, if_neg (by decide)]
    rw [e]
    unfold mn_
    rw [if_pos ⟨⟨by omega, by omega⟩, by omega, by omega⟩]
    by_cases h8 : μ 138 5 = 8
    · rw [if_pos h8, if_pos (by omega)]
    · rw [if_neg h8, if_neg (by omega)]
  rw [key, key, lt_if (by omega) (by decide)]
  by_cases h8 : μ 138 4 < 8
  · rw [if_pos h8, if_pos h8]
  · rw [if_neg h8, if_neg h8]
theorem e_settle_r {μ : mu_T} {a : Int} (hn : a = -11 ∨ a = -12 ∨ a = -14) : f_X3_settle μ a = some (a, μ) := by
  unfold f_X3_settle
  rw [e_isRefusal (by omega), bd_some, tr_0, if_pos hn]
