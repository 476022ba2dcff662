/-! a new urn -/
section HC
variable {t : Int} {s : Int → Int} {μ ν : mu_T}
theorem ff_ex (hT : iv_T s) : ∀ n : Nat, n ≤ 24 → (∀ j : Int, 0 ≤ j → j < n → s (17 + j) = 1) ∨ ∃ c : Int, 0 ≤ c ∧ c < n ∧ s (17 + c) = 0 ∧ ∀ j, 0 ≤ j → j < c → s (17 + j) = 1
  | 0, _ => Or.inl (fun j a b => by omega)
  | n + 1, hn => by
    rcases ff_ex hT n (by omega) with h | ⟨c, c0, c1, c2, c3⟩
    · rcases (hT n (by omega) (by omega)).1 with q | q
      · exact Or.inr ⟨n, by omega, by omega, q, h⟩
      · refine Or.inl (fun j a b => ?_)
        by_cases hj : j = n
        · rw [hj, q]
        · exact h j a (by omega)
    · exact Or.inr ⟨c, c0, by omega, c2, c3⟩
theorem l_make (hT : iv_T s) (hh : ∀ c, 0 ≤ c → c < 24 → μ 4 c = if s (17 + c) = 0 then -1 else s (41 + c)) {J19 : Int → Option (Int × mu_T)} {J88 : Unit → Option (Int × mu_T)} {c : Int} (hc : c < 24) (hf : s (17 + c) = 0) : ∀ (n : Nat) (i : Int), 0 ≤ i → i + n = c → (∀ j, i ≤ j → j < c → s (17 + j) = 1) → ∀ f : Nat, n < f → f_X1_makeUrn_L2 J19 J88 μ f i = J19 c := by
  intro n
  induction n with
  | zero =>
    intro i i0 hi _ f hfu
    obtain ⟨f', rfl⟩ : ∃ f', f = f' + 1 := ⟨f - 1, by omega⟩
    have e : i = c := by omega
    subst e
    rw [f_X1_makeUrn_L2, lt_y (by omega) (by decide) hc, e_hasUrn hT hh (by omega), bd_some, tr_0, if_neg (fun q => by have := q.2; omega)]
  | succ n ih =>
    intro i i0 hi hj f hfu
    obtain ⟨f', rfl⟩ : ∃ f', f = f' + 1 := ⟨f - 1, by omega⟩
    rw [f_X1_makeUrn_L2, lt_y (by omega) (by decide) (by omega), e_hasUrn hT hh (by omega), bd_some, tr_0, if_pos ⟨⟨i0, by omega⟩, hj i (by omega) (by omega)⟩, nm_q]
    exact ih (i + 1) (by omega) (by omega) (fun j a b => hj j (by omega) b) f' (by omega)
theorem l_make0 (hT : iv_T s) (hh : ∀ c, 0 ≤ c → c < 24 → μ 4 c = if s (17 + c) = 0 then -1 else s (41 + c)) {J19 : Int → Option (Int × mu_T)} {J88 : Unit → Option (Int × mu_T)} (hf : ∀ j, 0 ≤ j → j < 24 → s (17 + j) = 1) : ∀ (n : Nat) (i : Int), 0 ≤ i → i + n = 24 → ∀ f : Nat, n < f → f_X1_makeUrn_L2 J19 J88 μ f i = J88 () := by
  intro n
  induction n with
  | zero =>
    intro i i0 hi f hfu
    obtain ⟨f', rfl⟩ : ∃ f', f = f' + 1 := ⟨f - 1, by omega⟩
    rw [f_X1_makeUrn_L2, lt_n (by omega) (by decide) (by omega)]
  | succ n ih =>
    intro i i0 hi f hfu
    obtain ⟨f', rfl⟩ : ∃ f', f = f' + 1 := ⟨f - 1, by omega⟩
    rw [f_X1_makeUrn_L2, lt_y (by omega) (by decide) (by omega), e_hasUrn hT hh (by omega), bd_some, tr_0, if_pos ⟨⟨i0, by omega⟩, hf i (by omega) (by omega)⟩, nm_q]
    exact ih (i + 1) (by omega) (by omega) f' (by omega)
theorem l_mk (hT : iv_T (ν 1)) {J27 : Int → Option (Int × mu_T)} {c : Int} (hc : c < 24) (hf : ν 1 (17 + c) = 0) : ∀ (n : Nat) (i : Int), 0 ≤ i → i + n = c → (∀ j, i ≤ j → j < c → ν 1 (17 + j) = 1) → ∀ f : Nat, n < f → f_X12_makes_L2 J27 ν f i = J27 c := by
  intro n
  induction n with
  | zero =>
    intro i i0 hi _ f hfu
    obtain ⟨f', rfl⟩ : ∃ f', f = f' + 1 := ⟨f - 1, by omega⟩
    have e : i = c := by omega
    subst e
    rw [f_X12_makes_L2, lt_y (by omega) (by decide) hc, rd_e (by omega) (by omega), hf, eq_n (by decide) (by decide) (by decide)]
  | succ n ih =>
    intro i i0 hi hj f hfu
    obtain ⟨f', rfl⟩ : ∃ f', f = f' + 1 := ⟨f - 1, by omega⟩
    rw [f_X12_makes_L2, lt_y (by omega) (by decide) (by omega), rd_e (by omega) (by omega), hj i (by omega) (by omega), eq_y rfl, nm_q]
    exact ih (i + 1) (by omega) (by omega) (fun j a b => hj j (by omega) b) f' (by omega)
theorem l_mk0 {J27 : Int → Option (Int × mu_T)} (hf : ∀ j, 0 ≤ j → j < 24 → ν 1 (17 + j) = 1) : ∀ (n : Nat) (i : Int), 0 ≤ i → i + n = 24 → ∀ f : Nat, n < f → f_X12_makes_L2 J27 ν f i = J27 24 := by
  intro n
  induction n with
  | zero =>
    intro i i0 hi f hfu
    obtain ⟨f', rfl⟩ : ∃ f', f = f' + 1 := ⟨f - 1, by omega⟩
    have e : i = 24 := by omega
    subst e
    rw [f_X12_makes_L2, lt_n (by decide) (by decide) (by decide)]
  | succ n ih =>
    intro i i0 hi f hfu
    obtain ⟨f', rfl⟩ : ∃ f', f = f' + 1 := ⟨f - 1, by omega⟩
    rw [f_X12_makes_L2, lt_y (by omega) (by decide) (by omega), rd_e (by omega) (by omega), hf i (by omega) (by omega), eq_y rfl, nm_q]
    exact ih (i + 1) (by omega) (by omega) f' (by omega)
/-- the row behind a new urn -/
def an_9 (s : Int → Int) (c col r : Int) : Int → Int := ur_ (ur_ (ur_ (ur_ (ur_ s (17 + c) 1) (65 + c) r) (89 + c) (s 2)) (41 + c) col) 3 (s 3 + 1)
theorem an_o {c col r j : Int} (h3 : j ≠ 3) (h17 : j ≠ 17 + c) (h65 : j ≠ 65 + c) (h89 : j ≠ 89 + c) (h41 : j ≠ 41 + c) : an_9 s c col r j = s j := by
  unfold an_9
  rw [ur_n h3, ur_n h41, ur_n h89, ur_n h65, ur_n h17]
theorem an_41 {c col r : Int} (h0 : 0 ≤ c) : an_9 s c col r (41 + c) = col := by
  unfold an_9
  rw [ur_n (by omega), ur_y]
theorem an_17 {c col r : Int} (h0 : 0 ≤ c) : an_9 s c col r (17 + c) = 1 := by
  unfold an_9
  rw [ur_n (by omega), ur_n (by omega), ur_n (by omega), ur_n (by omega), ur_y]
theorem an_65 {c col r : Int} (h0 : 0 ≤ c) : an_9 s c col r (65 + c) = r := by
  unfold an_9
  rw [ur_n (by omega), ur_n (by omega), ur_n (by omega), ur_y]
theorem iv_new (hI : iv_ t s) {c col r : Int} (c0 : 0 ≤ c) (c1 : c < 24) (hf : s (17 + c) = 0) (hcol : col = 0 ∨ col = 2) (hr : r = 0 ∨ r = 1) : iv_ (t + 1) (an_9 s c col r) := by
  obtain ⟨hT, hP, hH, hW, hM, hD, hG, hL, hC⟩ := hI
  have hc := hT c c0 c1
  have hz := hc.2.2.2 hf
  have low : ∀ j, j < 17 → j ≠ 3 → an_9 s c col r j = s j := fun j hj h3 => an_o h3 (by omega) (by omega) (by omega) (by omega)
  have hi : ∀ j, 113 ≤ j → an_9 s c col r j = s j := fun j hj => an_o (by omega) (by omega) (by omega) (by omega) (by omega)
  have hne : ∀ x, s (17 + x) = 1 → x ≠ c := fun x hx q => by rw [q, hf] at hx; omega
  have e17 : ∀ x, 0 ≤ x → x < 24 → s (17 + x) = 1 → an_9 s c col r (17 + x) = 1 := fun x a b q => by
    rw [an_o (by omega) (by have := hne x q; omega) (by omega) (by omega) (by omega)]
    exact q
  have e41 : ∀ x, 0 ≤ x → x < 24 → x ≠ c → an_9 s c col r (41 + x) = s (41 + x) := fun x a b q => an_o (by omega) (by omega) (by omega) (by omega) (by omega)
  have e65 : ∀ x, 0 ≤ x → x < 24 → x ≠ c → an_9 s c col r (65 + x) = s (65 + x) := fun x a b q => an_o (by omega) (by omega) (by omega) (by omega) (by omega)
  have ft : ∀ x, ft_ s x → ft_ (an_9 s c col r) x := fun x hx => by
    rcases hx with q | ⟨q0, q1, q2⟩
    · exact Or.inl q
    · exact Or.inr ⟨q0, q1, e17 x q0 q1 q2⟩
  have sf : ∀ x, 0 ≤ x → x < 24 → x ≠ c → sf_ s x → sf_ (an_9 s c col r) x := fun x a b q hs => by
    unfold sf_
    rw [low 0 (by omega) (by omega), low 1 (by omega) (by omega), e41 x a b q]
    exact hs
  refine ⟨fun x x0 x1 => ?_, ?_, fun k k0 k1 => ?_, fun x x0 x1 => ?_, fun k k0 k1 => ?_, ?_, ?_, ?_, ?_⟩
  · by_cases hx : x = c
    · subst hx
      rw [an_17 x0, an_41 x0, an_65 x0]
      exact ⟨Or.inr rfl, by omega, by omega, fun q => by omega⟩
    · rw [e41 x x0 x1 hx, e65 x x0 x1 hx, an_o (show 17 + x ≠ 3 by omega) (by omega) (by omega) (by omega) (by omega)]
      exact hT x x0 x1
  · exact iv_P_k ⟨low 0 (by omega) (by omega), low 1 (by omega) (by omega)⟩ hP
  · rw [hi _ (by omega)]
    exact ft _ (hH k k0 k1)
  · rw [hi (113 + x) (by omega), low 0 (by omega) (by omega), low 1 (by omega) (by omega)]
    have q := hW x x0 x1
    refine ⟨ft _ q.1, fun z1 z2 => ?_⟩
    rcases q.1 with w | ⟨w0, w1, w2⟩
    · exact absurd w z2
    · rw [e41 _ w0 w1 (hne _ w2)]
      exact q.2 z1 z2
  · rw [low (11 + k) (by omega) (by omega)]
    have q := hM k k0 k1
    refine ⟨ft _ q.1, fun z => ?_⟩
    rcases q.1 with w | ⟨w0, w1, w2⟩
    · exact absurd w z
    · exact sf _ w0 w1 (hne _ w2) (q.2 z)
  · obtain ⟨⟨d0, d1⟩, d2, d3, d4⟩ := hD
    have e9 : an_9 s c col r 9 = s 9 := low 9 (by omega) (by omega)
    refine ⟨⟨by rw [e9]; exact d0, ?_⟩, fun k k0 k1 => ?_, fun j k j0 jk k1 => ?_, fun x x0 x1 hx => ?_⟩
    · rw [e9, d1]
      refine cn_eq 24 (fun x x0 x1 => ?_)
      by_cases hx : x = c
      · subst hx
        rw [an_65 x0, hz.2]
        rcases hr with rfl | rfl <;> rfl
      · rw [e65 x x0 (by omega) hx]
    · rw [e9] at k1
      obtain ⟨q0, q1, q2⟩ := d2 k k0 k1
      rw [hi (257 + k) (by omega)]
      have hx : s (257 + k) ≠ c := fun q => by rw [q, hz.2] at q1; omega
      exact ⟨q0, by rw [e65 _ q0.1 q0.2 hx]; exact q1, sf _ q0.1 q0.2 hx q2⟩
    · rw [e9] at k1
      rw [hi _ (by omega), hi _ (by omega)]
      exact d3 j k j0 jk k1
    · have hxc : x ≠ c := fun q => by
        subst q
        rw [an_65 x0] at hx
        omega
      rw [e65 x x0 x1 hxc] at hx
      obtain ⟨k, k0, k1, k2⟩ := d4 x x0 x1 hx
      exact ⟨k, k0, by rw [e9]; exact k1, by rw [hi _ (by omega)]; exact k2⟩
  · obtain ⟨⟨d0, d1⟩, d2, d3, d4⟩ := hG
    have e8 : an_9 s c col r 8 = s 8 := low 8 (by omega) (by omega)
    refine ⟨⟨by rw [e8]; exact d0, ?_⟩, fun k k0 k1 => ?_, fun j k j0 jk k1 => ?_, fun z => ?_⟩
    · rw [e8, d1]
      refine cn_eq 24 (fun x x0 x1 => ?_)
      by_cases hx : x = c
      · subst hx
        rw [an_41 x0, hz.1]
        rcases hcol with rfl | rfl <;> rfl
      · rw [e41 x x0 (by omega) hx]
    · rw [e8] at k1
      obtain ⟨q0, q1⟩ := d2 k k0 k1
      rw [hi (233 + k) (by omega)]
      have hx : s (233 + k) ≠ c := fun q => by rw [q, hz.1] at q1; omega
      exact ⟨q0, by rw [e41 _ q0.1 q0.2 hx]; exact q1⟩
    · rw [e8] at k1
      rw [hi _ (by omega), hi _ (by omega)]
      exact d3 j k j0 jk k1
    · rw [low 0 (by omega) (by omega)] at z
      rw [e8]
      exact d4 z
  · exact iv_L_k (low 4 (by omega) (by omega)) (low 10 (by omega) (by omega)) hL
  · refine ⟨?_, ?_⟩
    · have e := cn_up (p := fun x => decide (s (17 + x) = 1)) (q := fun x => decide (an_9 s c col r (17 + x) = 1)) c0 24 (fun x x0 x1 xn => by
        show decide (an_9 s c col r (17 + x) = 1) = decide (s (17 + x) = 1)
        rw [an_o (show 17 + x ≠ 3 by omega) (by omega) (by omega) (by omega) (by omega)])
      have e1 : decide (an_9 s c col r (17 + c) = 1) = true := by
        rw [an_17 c0]
        rfl
      have e2 : decide (s (17 + c) = 1) = false := by
        rw [hf]
        rfl
      have e3 : an_9 s c col r 3 = s 3 + 1 := ur_y
      rw [e3, low 4 (by omega) (by omega), e, if_pos (by omega), e1, e2, hC.1]
      show _ = _ + (1 - 0) + s 4
      omega
    · have e3 : an_9 s c col r 3 = s 3 + 1 := ur_y
      have := hC.2
      omega
theorem hr_new (hr : hr_ μ s) {c col r : Int} (c0 : 0 ≤ c) (c1 : c < 24) (hf : s (17 + c) = 0) : hr_ (st_ (st_ (st_ (st_ μ 4 c col) 3 c r) 5 c (s 2)) 0 12 (s 3 + 1)) (an_9 s c col r) := by
  obtain ⟨r1, r2, r3, r4, r5, r6, r7, ⟨r8, r9⟩, ⟨r10, r11⟩, r12, r13, r14, r15, r16, r17, r18, r19⟩ := hr
  refine ⟨fun k k0 k1 => ?_, fun k k0 k1 => ?_, fun k k0 k1 => ?_, fun k k0 k1 => ?_, fun k k0 k1 kt => ?_, fun k k0 k1 => ?_, fun k k0 k1 => ?_, ⟨?_, fun k k0 k1 => ?_⟩, ⟨?_, fun k k0 k1 => ?_⟩, ?_, ?_, ?_, ?_, ?_, ?_, ?_, ?_⟩
  · have q := r1 k k0 k1
    show (μ 1) k = _
    simp only [an_9, ur_, if_true] <;> omega
  · have q := r2 k k0 k1
    show (μ 2) k = _
    simp only [an_9, ur_, if_true] <;> omega
  · have q := r3 k k0 k1
    show (ur_ (μ 3) c r) k = _
    by_cases hk : k = c
    · subst hk
      simp only [an_9, ur_, if_true, if_true] <;> omega
    · skip
      simp only [an_9, ur_, if_true] <;> omega
  · have q := r4 k k0 k1
    show (ur_ (μ 4) c col) k = _
    by_cases hk : k = c
    · subst hk
      simp only [an_9, ur_, if_true, if_true] <;> omega
    · skip
      simp only [an_9, ur_, if_true] <;> omega
  · have q := r5 k k0 k1
    show (ur_ (μ 5) c (s 2)) k = _
    by_cases hk : k = c
    · subst hk
      simp only [an_9, ur_, if_true, if_true] at kt ⊢ <;> omega
    · skip
      simp only [an_9, ur_, if_true] at kt ⊢ <;> omega
  · have q := r6 k k0 k1
    show (μ 6) k = _
    simp only [an_9, ur_, if_true] <;> omega
  · have q := r7 k k0
    rw [show (an_9 s c col r) 4 = s 4 from an_o (by omega) (by omega) (by omega) (by omega) (by omega)]
    show (μ 7) _ = _
    simp only [an_9, ur_, if_true] at k1 ⊢ <;> omega
  · show (μ 8) 1 = _
    simp only [an_9, ur_, if_true] <;> omega
  · have q := r9 k k0
    show (μ 9) k = _
    simp only [an_9, ur_, if_true] at k1 ⊢ <;> omega
  · show (μ 10) 1 = _
    simp only [an_9, ur_, if_true] <;> omega
  · have q := r11 k k0
    show (μ 11) k = _
    simp only [an_9, ur_, if_true] at k1 ⊢ <;> omega
  · show (ur_ (μ 0) 12 (s 3 + 1)) 9 = _
    simp only [an_9, ur_, if_true] <;> omega
  · show (ur_ (μ 0) 12 (s 3 + 1)) 10 = _
    simp only [an_9, ur_, if_true] <;> omega
  · show (ur_ (μ 0) 12 (s 3 + 1)) 11 = _
    simp only [an_9, ur_, if_true] <;> omega
  · show (ur_ (μ 0) 12 (s 3 + 1)) 12 = _
    simp only [an_9, ur_, if_true] <;> omega
  · show (ur_ (μ 0) 12 (s 3 + 1)) 13 = _
    simp only [an_9, ur_, if_true] <;> omega
  · show (ur_ (μ 0) 12 (s 3 + 1)) 14 = _
    simp only [an_9, ur_, if_true] <;> omega
  · show (ur_ (μ 0) 12 (s 3 + 1)) 15 = _
    simp only [an_9, ur_, if_true] <;> omega
  · show (ur_ (μ 0) 12 (s 3 + 1)) 16 = _
    simp only [an_9, ur_, if_true] <;> omega
theorem e_colour (hP : iv_P s) (hp : μ 0 9 = s 0) (hn : μ 0 10 = s 1) {c : Int} (c0 : 0 ≤ c) (c1 : c < 24) : f_X1_colourOfNew μ c = some (if s 0 = 1 ∨ (s 0 = 2 ∧ s 1 ≤ c) then 2 else 0) := by
  have q := hP.1
  have q2 := hP.2.1
  unfold f_X1_colourOfNew
  simp only [nm_q, jn_e, hp, hn]
  by_cases h2 : s 0 = 2
  · rw [eq_y h2]
    by_cases h3 : c < s 1
    · rw [lt_y (by omega) (by omega) h3, eq_n (by omega) (by decide) (by omega), eq_y rfl, if_neg (by omega)]
    · rw [lt_n (by omega) (by omega) h3, eq_n (by omega) (by decide) (by omega), eq_n (by decide) (by decide) (by decide), if_pos (by omega)]
  · rw [eq_n (by omega) (by decide) h2]
    by_cases h1 : s 0 = 1
    · rw [eq_y h1, if_pos (Or.inl h1)]
    · rw [eq_n (by omega) (by decide) h1, eq_y rfl, if_neg (by omega)]
theorem nw_B (hI : iv_ t s) {c col r : Int} (c0 : 0 ≤ c) (c1 : c < 24) (hf : s (17 + c) = 0) (hcol : col = if s 0 = 1 ∨ (s 0 = 2 ∧ s 1 ≤ c) then 2 else 0) (hB : iv_B s) : iv_B (an_9 s c col r) := by
  have hH := hI.2.2.1
  obtain ⟨b0, b1, b2, b3, b4⟩ := hB
  have low : ∀ j, j < 3 → an_9 s c col r j = s j := fun j hj => an_o (by omega) (by omega) (by omega) (by omega) (by omega)
  have hi : ∀ j, 113 ≤ j → an_9 s c col r j = s j := fun j hj => an_o (by omega) (by omega) (by omega) (by omega) (by omega)
  have e17 : ∀ x, 0 ≤ x → x < 24 → x ≠ c → an_9 s c col r (17 + x) = s (17 + x) := fun x a b q => an_o (by omega) (by omega) (by omega) (by omega) (by omega)
  have e41 : ∀ x, 0 ≤ x → x < 24 → x ≠ c → an_9 s c col r (41 + x) = s (41 + x) := fun x a b q => an_o (by omega) (by omega) (by omega) (by omega) (by omega)
  have hr : ∀ k, 0 ≤ k → k < 96 → s (137 + k) ≠ -15 → (0 ≤ s (137 + k) ∧ s (137 + k) < 24) ∧ s (137 + k) ≠ c := fun k k0 k1 ht => by
    rcases hH k k0 k1 with q | ⟨q0, q1, q2⟩
    · exact absurd q ht
    · exact ⟨⟨q0, q1⟩, fun z => by rw [z, hf] at q2; omega⟩
  have hk15 : ∀ k, 0 ≤ k → k < 96 → k / 4 = c → s (137 + k) = -15 := fun k k0 k1 hk => b0 k k0 k1 (by rw [hk]; exact hf)
  refine ⟨fun k k0 k1 hk => ?_, fun hp k k0 k1 hk ht => ?_, fun hp k k0 k1 ht hk => ?_, fun hp x x0 x1 => ?_, fun hp x x0 x1 hx => ?_⟩
  · rw [hi (137 + k) (by omega)]
    by_cases hc : k / 4 = c
    · exact hk15 k k0 k1 hc
    · rw [e17 (k / 4) (by omega) (by omega) hc] at hk
      exact b0 k k0 k1 hk
  · rw [low 0 (by omega)] at hp
    rw [hi (137 + k) (by omega)] at ht ⊢
    have q := hr k k0 k1 ht
    have hc : k / 4 ≠ c := fun z => ht (hk15 k k0 k1 z)
    rw [e41 (k / 4) (by omega) (by omega) hc] at hk
    rw [e41 _ q.1.1 q.1.2 q.2]
    exact b1 hp k k0 k1 hk ht
  · rw [low 0 (by omega)] at hp
    rw [hi (137 + k) (by omega)] at ht ⊢
    have q := hr k k0 k1 ht
    have hc : k / 4 ≠ c := fun z => ht (hk15 k k0 k1 z)
    rw [e41 (k / 4) (by omega) (by omega) hc, low 1 (by omega)] at hk
    rw [e41 _ q.1.1 q.1.2 q.2, low 1 (by omega)]
    exact b2 hp k k0 k1 ht hk
  · rw [low 0 (by omega)] at hp
    by_cases hc : x = c
    · rw [hc, an_41 c0, hcol, if_neg (by omega)]
    · rw [e41 x x0 x1 hc]
      exact b3 hp x x0 x1
  · rw [low 0 (by omega)] at hp
    rw [low 1 (by omega)] at hx
    by_cases hc : x = c
    · rw [hc, an_41 c0, hcol, if_neg (by omega)]
    · rw [e41 x x0 x1 hc]
      exact b4 hp x x0 x1 hx
theorem op_makes (h : hi_ t μ ν) {a : Int} (ha : a = 0 ∨ a = 1) : op_ t μ ν (f_X1_makeUrn μ a) (f_X12_makes ν a) := by
  obtain ⟨hr, hI⟩ := id h
  have hr0 := hr
  obtain ⟨hT, hP, hH, hW, hM, hD, hG, hL, hC⟩ := id hI
  obtain ⟨r1, r2, r3, r4, r5, r6, r7, ⟨r8, r9⟩, ⟨r10, r11⟩, r12, r13, r14, r15, r16, r17, r18, r19⟩ := hr
  unfold f_X1_makeUrn f_X12_makes
  obtain ⟨F, hF2, hF⟩ : ∃ F : Nat, 24 < F ∧ F = 20000 := ⟨20000, Nat.le_of_ble_eq_true rfl, rfl⟩
  rw [← hF]
  clear hF
  simp only [jn_e]
  rcases ff_ex hT 24 (Nat.le_refl _) with hf | ⟨c, c0, c1, c2, c3⟩
  · rw [l_make0 hT r4 (fun j x y => hf j x (by omega)) 24 0 (by decide) (by decide) F (by omega), l_mk0 (fun j x y => hf j x (by omega)) 24 0 (by decide) (by decide) F (by omega), eq_y rfl, e_refuse, e_refused, bp_some, bp_some]
    exact op_ref h ⟨by omega, by omega⟩
  · have c1' : c < 24 := by omega
    rw [l_make hT r4 c1' c2 c.toNat 0 (by decide) (by omega) (fun j x y => c3 j x y) F (by omega), l_mk hT c1' c2 c.toNat 0 (by decide) (by omega) (fun j x y => c3 j x y) F (by omega)]
    generalize hcol : (if ν 1 0 = 1 ∨ (ν 1 0 = 2 ∧ ν 1 1 ≤ c) then (2 : Int) else 0) = col
    have hcol2 : col = 0 ∨ col = 2 := by
      rw [← hcol]
      split
      · exact Or.inr rfl
      · exact Or.inl rfl
    rw [e_colour hP r12 r13 c0 c1', hcol, bd_some, eq_n (by omega) (by decide) (by omega)]
    have key1 : ∀ r : Int, (wr_ (st_ μ 4 c col) 3 24 c r (fun μ50 => nm_ (μ50 0 11) (fun v63 => wr_ μ50 5 24 c v63 (fun μ64 => nm_ (μ64 0 12) (fun v70 => wf_ μ64 0 12 (v70 + 1) (fun μ75 => (some (c, μ75) : Option (Int × mu_T)))))))) = some (c, st_ (st_ (st_ (st_ μ 4 c col) 3 c r) 5 c (ν 1 2)) 0 12 (ν 1 3 + 1)) := fun r => by
      rw [wr_e c0 (by omega), nm_q, wr_e c0 (by omega), nm_q, wf_e]
      have e1 : (st_ (st_ μ 4 c col) 3 c r) 0 11 = ν 1 2 := r14
      have e2 : (st_ (st_ (st_ μ 4 c col) 3 c r) 5 c ((st_ (st_ μ 4 c col) 3 c r) 0 11)) 0 12 = ν 1 3 := r15
      rw [e2, e1]
    have key2 : ∀ r : Int, (wr_ (um_ ν 1 (ur_ (ν 1) (17 + c) 1)) 1 293 (65 + c) r (fun μ68 => rd_ μ68 1 293 2 (fun v82 => wr_ μ68 1 293 (89 + c) v82 (fun μ83 => rd_ μ83 1 293 0 (fun v97 => eq_ v97 1
      (wr_ μ83 1 293 (41 + c) 2 (fun μ127 => rd_ μ127 1 293 3 (fun v134 => wr_ μ127 1 293 3 (v134 + 1) (fun μ137 => bp_ (f_X12_done μ137 c) (fun v140 μ140 => some (v140, μ140))))))
      (rd_ μ83 1 293 0 (fun v107 => eq_ v107 2
      (rd_ μ83 1 293 1 (fun v118 => lt_ c v118
      (wr_ μ83 1 293 (41 + c) 0 (fun μ127 => rd_ μ127 1 293 3 (fun v134 => wr_ μ127 1 293 3 (v134 + 1) (fun μ137 => bp_ (f_X12_done μ137 c) (fun v140 μ140 => some (v140, μ140))))))
      (wr_ μ83 1 293 (41 + c) 2 (fun μ127 => rd_ μ127 1 293 3 (fun v134 => wr_ μ127 1 293 3 (v134 + 1) (fun μ137 => bp_ (f_X12_done μ137 c) (fun v140 μ140 => some (v140, μ140))))))))
      (wr_ μ83 1 293 (41 + c) 0 (fun μ127 => rd_ μ127 1 293 3 (fun v134 => wr_ μ127 1 293 3 (v134 + 1) (fun μ137 => bp_ (f_X12_done μ137 c) (fun v140 μ140 => some (v140, μ140))))))))))))) = some (0, st_ (um_ ν 1 (an_9 (ν 1) c col r)) 0 15 c) := fun r => by
      have e2 : ur_ (ur_ (ν 1) (17 + c) 1) (65 + c) r 2 = ν 1 2 := by rw [ur_n (by omega), ur_n (by omega)]
      have e0 : ur_ (ur_ (ur_ (ν 1) (17 + c) 1) (65 + c) r) (89 + c) (ν 1 2) 0 = ν 1 0 := by rw [ur_n (by omega), ur_n (by omega), ur_n (by omega)]
      have e1 : ur_ (ur_ (ur_ (ν 1) (17 + c) 1) (65 + c) r) (89 + c) (ν 1 2) 1 = ν 1 1 := by rw [ur_n (by omega), ur_n (by omega), ur_n (by omega)]
      have e3 : ∀ col, ur_ (ur_ (ur_ (ur_ (ν 1) (17 + c) 1) (65 + c) r) (89 + c) (ν 1 2)) (41 + c) col 3 = ν 1 3 := fun col => by rw [ur_n (by omega), ur_n (by omega), ur_n (by omega), ur_n (by omega)]
      have fin : ∀ col, (wr_ (um_ ν 1 (ur_ (ur_ (ur_ (ν 1) (17 + c) 1) (65 + c) r) (89 + c) (ν 1 2))) 1 293 (41 + c) col (fun μ127 => rd_ μ127 1 293 3 (fun v134 => wr_ μ127 1 293 3 (v134 + 1) (fun μ137 => bp_ (f_X12_done μ137 c) (fun v140 μ140 => (some (v140, μ140) : Option (Int × mu_T))))))) = some (0, st_ (um_ ν 1 (an_9 (ν 1) c col r)) 0 15 c) := fun col => by
        rw [wr_e (by omega) (by omega), st_um, rd_e (by omega) (by omega), um_self, e3, wr_e (by omega) (by omega), st_um, e_done, bp_some]
        rfl
      rw [wr_e (by omega) (by omega), st_um, rd_e (by omega) (by omega), um_self, e2, wr_e (by omega) (by omega), st_um, rd_e (by omega) (by omega), um_self, e0, fin, fin]
      have q := hP.1
      have q2 := hP.2.1
      by_cases h1 : ν 1 0 = 1
      · rw [eq_y h1, ← hcol, if_pos (Or.inl h1)]
      · rw [eq_n (by omega) (by decide) h1, rd_e (by omega) (by omega), um_self, e0]
        by_cases h2 : ν 1 0 = 2
        · rw [eq_y h2, rd_e (by omega) (by omega), um_self, e1]
          by_cases h3 : c < ν 1 1
          · rw [lt_y (by omega) (by omega) h3, ← hcol, if_neg (by omega)]
          · rw [lt_n (by omega) (by omega) h3, ← hcol, if_pos (by omega)]
        · rw [eq_n (by omega) (by decide) h2, ← hcol, if_neg (by omega)]
    have fin2 : ∀ r : Int, r = 0 ∨ r = 1 → op_ t μ ν (some (c, st_ (st_ (st_ (st_ μ 4 c col) 3 c r) 5 c (ν 1 2)) 0 12 (ν 1 3 + 1))) (some (0, st_ (um_ ν 1 (an_9 (ν 1) c col r)) 0 15 c)) := fun r hr1 => op_done (hr_new hr0 c0 c1' c2) (iv_new hI c0 c1' c2 hcol2 hr1) (fun k hk => by rw [st_n (by omega), st_n (by omega), st_n (by omega), st_n (by omega)]) (by omega) ⟨by omega, by omega⟩ (fun hB => nw_B hI c0 c1' c2 hcol.symm hB)
    rw [wr_e c0 (by omega), wr_e (μ := ν) (by omega) (by omega)]
    have es : st_ ν 1 (17 + c) 1 = um_ ν 1 (ur_ (ν 1) (17 + c) 1) := rfl
    rw [es]
    rcases ha with rfl | rfl
    · rw [eq_y rfl, eq_y rfl, key1, key2]
      exact fin2 0 (Or.inl rfl)
    · rw [eq_n (by decide) (by decide) (by decide), eq_n (by decide) (by decide) (by decide), key1, key2]
      exact fin2 1 (Or.inr rfl)
end HC
