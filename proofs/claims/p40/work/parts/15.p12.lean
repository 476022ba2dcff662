/-! rows of the heap, one by one; a round begins -/
section RW
variable {t : Int} {s : Int → Int} {μ ν : mu_T}
theorem hr_sc (hr : hr_ μ s) {j v : Int} (hj : 0 ≤ j ∧ j ≤ 7 ∧ j ≠ 4) : hr_ (st_ μ 0 (9 + j) v) (ur_ s j v) := by
  obtain ⟨r1, r2, r3, r4, r5, r6, r7, ⟨r8, r9⟩, ⟨r10, r11⟩, r12, r13, r14, r15, r16, r17, r18, r19⟩ := hr
  refine ⟨fun k k0 k1 => ?_, fun k k0 k1 => ?_, fun k k0 k1 => ?_, fun k k0 k1 => ?_, fun k k0 k1 kt => ?_, fun k k0 k1 => ?_, fun k k0 k1 => ?_, ⟨?_, fun k k0 k1 => ?_⟩, ⟨?_, fun k k0 k1 => ?_⟩, ?_, ?_, ?_, ?_, ?_, ?_, ?_, ?_⟩
  · have q := r1 k k0 k1
    show (μ 1) k = _
    simp only [ur_] <;> omega
  · have q := r2 k k0 k1
    show (μ 2) k = _
    simp only [ur_] <;> omega
  · have q := r3 k k0 k1
    show (μ 3) k = _
    simp only [ur_] <;> omega
  · have q := r4 k k0 k1
    show (μ 4) k = _
    simp only [ur_] <;> omega
  · have q := r5 k k0 k1
    show (μ 5) k = _
    simp only [ur_] at kt ⊢ <;> omega
  · have q := r6 k k0 k1
    show (μ 6) k = _
    simp only [ur_] <;> omega
  · have q := r7 k k0
    rw [show (ur_ s j v) 4 = s 4 from by simp only [ur_] <;> omega]
    show (μ 7) _ = _
    simp only [ur_] at k1 ⊢ <;> omega
  · show (μ 8) 1 = _
    simp only [ur_] <;> omega
  · have q := r9 k k0
    show (μ 9) k = _
    simp only [ur_] at k1 ⊢ <;> omega
  · show (μ 10) 1 = _
    simp only [ur_] <;> omega
  · have q := r11 k k0
    show (μ 11) k = _
    simp only [ur_] at k1 ⊢ <;> omega
  · show (ur_ (μ 0) (9 + j) v) 9 = _
    simp only [ur_] <;> omega
  · show (ur_ (μ 0) (9 + j) v) 10 = _
    simp only [ur_] <;> omega
  · show (ur_ (μ 0) (9 + j) v) 11 = _
    simp only [ur_] <;> omega
  · show (ur_ (μ 0) (9 + j) v) 12 = _
    simp only [ur_] <;> omega
  · show (ur_ (μ 0) (9 + j) v) 13 = _
    simp only [ur_] <;> omega
  · show (ur_ (μ 0) (9 + j) v) 14 = _
    simp only [ur_] <;> omega
  · show (ur_ (μ 0) (9 + j) v) 15 = _
    simp only [ur_] <;> omega
  · show (ur_ (μ 0) (9 + j) v) 16 = _
    simp only [ur_] <;> omega
theorem hr_co (hr : hr_ μ s) {c v : Int} (hc : 0 ≤ c ∧ c < 24) (h1 : s (17 + c) = 1) : hr_ (st_ μ 4 c v) (ur_ s (41 + c) v) := by
  obtain ⟨r1, r2, r3, r4, r5, r6, r7, ⟨r8, r9⟩, ⟨r10, r11⟩, r12, r13, r14, r15, r16, r17, r18, r19⟩ := hr
  refine ⟨fun k k0 k1 => ?_, fun k k0 k1 => ?_, fun k k0 k1 => ?_, fun k k0 k1 => ?_, fun k k0 k1 kt => ?_, fun k k0 k1 => ?_, fun k k0 k1 => ?_, ⟨?_, fun k k0 k1 => ?_⟩, ⟨?_, fun k k0 k1 => ?_⟩, ?_, ?_, ?_, ?_, ?_, ?_, ?_, ?_⟩
  · have q := r1 k k0 k1
    show (μ 1) k = _
    simp only [ur_, if_true] <;> omega
  · have q := r2 k k0 k1
    show (μ 2) k = _
    simp only [ur_, if_true] <;> omega
  · have q := r3 k k0 k1
    show (μ 3) k = _
    simp only [ur_, if_true] <;> omega
  · have q := r4 k k0 k1
    show (ur_ (μ 4) c v) k = _
    by_cases hk : k = c
    · subst hk
      simp only [ur_, if_true, if_true] <;> omega
    · skip
      simp only [ur_, if_true] <;> omega
  · have q := r5 k k0 k1
    show (μ 5) k = _
    simp only [ur_, if_true] at kt ⊢ <;> omega
  · have q := r6 k k0 k1
    show (μ 6) k = _
    simp only [ur_, if_true] <;> omega
  · have q := r7 k k0
    rw [show (ur_ s (41 + c) v) 4 = s 4 from by simp only [ur_, if_true] <;> omega]
    show (μ 7) _ = _
    simp only [ur_, if_true] at k1 ⊢ <;> omega
  · show (μ 8) 1 = _
    simp only [ur_, if_true] <;> omega
  · have q := r9 k k0
    show (μ 9) k = _
    simp only [ur_, if_true] at k1 ⊢ <;> omega
  · show (μ 10) 1 = _
    simp only [ur_, if_true] <;> omega
  · have q := r11 k k0
    show (μ 11) k = _
    simp only [ur_, if_true] at k1 ⊢ <;> omega
  · show (μ 0) 9 = _
    simp only [ur_, if_true] <;> omega
  · show (μ 0) 10 = _
    simp only [ur_, if_true] <;> omega
  · show (μ 0) 11 = _
    simp only [ur_, if_true] <;> omega
  · show (μ 0) 12 = _
    simp only [ur_, if_true] <;> omega
  · show (μ 0) 13 = _
    simp only [ur_, if_true] <;> omega
  · show (μ 0) 14 = _
    simp only [ur_, if_true] <;> omega
  · show (μ 0) 15 = _
    simp only [ur_, if_true] <;> omega
  · show (μ 0) 16 = _
    simp only [ur_, if_true] <;> omega
theorem hr_rt (hr : hr_ μ s) {c v : Int} (hc : 0 ≤ c ∧ c < 24) : hr_ (st_ μ 3 c v) (ur_ s (65 + c) v) := by
  obtain ⟨r1, r2, r3, r4, r5, r6, r7, ⟨r8, r9⟩, ⟨r10, r11⟩, r12, r13, r14, r15, r16, r17, r18, r19⟩ := hr
  refine ⟨fun k k0 k1 => ?_, fun k k0 k1 => ?_, fun k k0 k1 => ?_, fun k k0 k1 => ?_, fun k k0 k1 kt => ?_, fun k k0 k1 => ?_, fun k k0 k1 => ?_, ⟨?_, fun k k0 k1 => ?_⟩, ⟨?_, fun k k0 k1 => ?_⟩, ?_, ?_, ?_, ?_, ?_, ?_, ?_, ?_⟩
  · have q := r1 k k0 k1
    show (μ 1) k = _
    simp only [ur_, if_true] <;> omega
  · have q := r2 k k0 k1
    show (μ 2) k = _
    simp only [ur_, if_true] <;> omega
  · have q := r3 k k0 k1
    show (ur_ (μ 3) c v) k = _
    by_cases hk : k = c
    · subst hk
      simp only [ur_, if_true, if_true] <;> omega
    · skip
      simp only [ur_, if_true] <;> omega
  · have q := r4 k k0 k1
    show (μ 4) k = _
    simp only [ur_, if_true] <;> omega
  · have q := r5 k k0 k1
    show (μ 5) k = _
    simp only [ur_, if_true] at kt ⊢ <;> omega
  · have q := r6 k k0 k1
    show (μ 6) k = _
    simp only [ur_, if_true] <;> omega
  · have q := r7 k k0
    rw [show (ur_ s (65 + c) v) 4 = s 4 from by simp only [ur_, if_true] <;> omega]
    show (μ 7) _ = _
    simp only [ur_, if_true] at k1 ⊢ <;> omega
  · show (μ 8) 1 = _
    simp only [ur_, if_true] <;> omega
  · have q := r9 k k0
    show (μ 9) k = _
    simp only [ur_, if_true] at k1 ⊢ <;> omega
  · show (μ 10) 1 = _
    simp only [ur_, if_true] <;> omega
  · have q := r11 k k0
    show (μ 11) k = _
    simp only [ur_, if_true] at k1 ⊢ <;> omega
  · show (μ 0) 9 = _
    simp only [ur_, if_true] <;> omega
  · show (μ 0) 10 = _
    simp only [ur_, if_true] <;> omega
  · show (μ 0) 11 = _
    simp only [ur_, if_true] <;> omega
  · show (μ 0) 12 = _
    simp only [ur_, if_true] <;> omega
  · show (μ 0) 13 = _
    simp only [ur_, if_true] <;> omega
  · show (μ 0) 14 = _
    simp only [ur_, if_true] <;> omega
  · show (μ 0) 15 = _
    simp only [ur_, if_true] <;> omega
  · show (μ 0) 16 = _
    simp only [ur_, if_true] <;> omega
theorem hr_du (hr : hr_ μ s) {c : Int} (h9 : 0 ≤ s 9 ∧ s 9 < 24) (h8 : s 8 ≤ 24) : hr_ (st_ (st_ μ 11 (s 9) c) 10 1 (s 9 + 1)) (ur_ (ur_ s (257 + s 9) c) 9 (s 9 + 1)) := by
  obtain ⟨r1, r2, r3, r4, r5, r6, r7, ⟨r8, r9⟩, ⟨r10, r11⟩, r12, r13, r14, r15, r16, r17, r18, r19⟩ := hr
  refine ⟨fun k k0 k1 => ?_, fun k k0 k1 => ?_, fun k k0 k1 => ?_, fun k k0 k1 => ?_, fun k k0 k1 kt => ?_, fun k k0 k1 => ?_, fun k k0 k1 => ?_, ⟨?_, fun k k0 k1 => ?_⟩, ⟨?_, fun k k0 k1 => ?_⟩, ?_, ?_, ?_, ?_, ?_, ?_, ?_, ?_⟩
  · have q := r1 k k0 k1
    show (μ 1) k = _
    simp only [ur_, if_true] <;> omega
  · have q := r2 k k0 k1
    show (μ 2) k = _
    simp only [ur_, if_true] <;> omega
  · have q := r3 k k0 k1
    show (μ 3) k = _
    simp only [ur_, if_true] <;> omega
  · have q := r4 k k0 k1
    show (μ 4) k = _
    simp only [ur_, if_true] <;> omega
  · have q := r5 k k0 k1
    show (μ 5) k = _
    simp only [ur_, if_true] at kt ⊢ <;> omega
  · have q := r6 k k0 k1
    show (μ 6) k = _
    simp only [ur_, if_true] <;> omega
  · have q := r7 k k0
    rw [show (ur_ (ur_ s (257 + s 9) c) 9 (s 9 + 1)) 4 = s 4 from by simp only [ur_, if_true] <;> omega]
    show (μ 7) _ = _
    simp only [ur_, if_true] at k1 ⊢ <;> omega
  · show (μ 8) 1 = _
    simp only [ur_, if_true] <;> omega
  · have q := r9 k k0
    show (μ 9) k = _
    simp only [ur_, if_true] at k1 ⊢ <;> omega
  · show (ur_ (μ 10) 1 (s 9 + 1)) 1 = _
    simp only [ur_, if_true] <;> omega
  · have q := r11 k k0
    show (ur_ (μ 11) (s 9) c) k = _
    by_cases hk : k = s 9
    · subst hk
      simp only [ur_, if_true, if_true] at k1 ⊢ <;> omega
    · skip
      simp only [ur_, if_true] at k1 ⊢ <;> omega
  · show (μ 0) 9 = _
    simp only [ur_, if_true] <;> omega
  · show (μ 0) 10 = _
    simp only [ur_, if_true] <;> omega
  · show (μ 0) 11 = _
    simp only [ur_, if_true] <;> omega
  · show (μ 0) 12 = _
    simp only [ur_, if_true] <;> omega
  · show (μ 0) 13 = _
    simp only [ur_, if_true] <;> omega
  · show (μ 0) 14 = _
    simp only [ur_, if_true] <;> omega
  · show (μ 0) 15 = _
    simp only [ur_, if_true] <;> omega
  · show (μ 0) 16 = _
    simp only [ur_, if_true] <;> omega
def iv_M0 (s : Int → Int) : Prop := ∀ k, 0 ≤ k → k < 6 → ft_ s (s (11 + k))
def iv_D0 (s : Int → Int) : Prop := (0 ≤ s 9 ∧ s 9 = cn_ (fun c => decide (s (65 + c) = 2)) 24) ∧ (∀ k, 0 ≤ k → k < s 9 → (0 ≤ s (257 + k) ∧ s (257 + k) < 24) ∧ s (65 + s (257 + k)) = 2) ∧ (∀ j k, 0 ≤ j → j < k → k < s 9 → s (257 + j) ≠ s (257 + k)) ∧ (∀ c, 0 ≤ c → c < 24 → s (65 + c) = 2 → ∃ k, 0 ≤ k ∧ k < s 9 ∧ s (257 + k) = c)
theorem g_le (hG : iv_G s) : 0 ≤ s 8 ∧ s 8 ≤ 24 := by
  refine ⟨hG.1.1, ?_⟩
  rw [hG.1.2]
  exact cn_le _ 24
/-- while the roots are marked -/
def zg_ (t : Int) (s : Int → Int) : Prop := s 0 = 1 ∧ iv_T s ∧ iv_P s ∧ iv_H s ∧ iv_W s ∧ iv_M0 s ∧ iv_D0 s ∧ iv_G s ∧ iv_L s ∧ iv_C t s
theorem ag_gz {c : Int} (h : zg_ t s) (hc : ft_ s c) : zg_ t (ag_ s c) := by
  obtain ⟨hp, hT, hP, hH, hW, hM, hD, hG, hL, hC⟩ := h
  have hcc := ft_or hc
  have hle : s 9 ≤ 24 := by
    rw [hD.1.2]
    exact cn_le _ 24
  have h9 : ag_ s c 9 = s 9 := ag_o hG hcc (by omega) (by omega) (by omega)
  have h65 : ∀ x, 0 ≤ x → x < 24 → ag_ s c (65 + x) = s (65 + x) := fun x a b => ag_o hG hcc (by omega) (by omega) (by omega)
  have h257 : ∀ k, 0 ≤ k → ag_ s c (257 + k) = s (257 + k) := fun k a => ag_o hG hcc (by omega) (by omega) (by omega)
  refine ⟨(ag_o hG hcc (by omega) (by omega) (by omega)).trans hp, ag_T hT hG hc, ag_P hP hG hcc, ag_H hH hG hcc, ag_W hp hW hG hcc, fun k k0 k1 => ?_, ?_, ag_G hp hG hcc, ag_L hL hG hcc, ag_C hC hG hcc⟩
  · rw [ag_o hG hcc (show 11 + k ≠ 8 by omega) (by omega) (by omega)]
    exact ag_ft hG hcc (hM k k0 k1)
  · obtain ⟨⟨d0, d1⟩, d2, d3, d4⟩ := hD
    refine ⟨⟨by rw [h9]; exact d0, ?_⟩, fun k k0 k1 => ?_, fun j k j0 jk k1 => ?_, fun x x0 x1 hx => ?_⟩
    · rw [h9, d1]
      exact cn_eq 24 (fun x a b => by rw [h65 x a (by omega)])
    · rw [h9] at k1
      obtain ⟨q0, q1⟩ := d2 k k0 k1
      rw [h257 k k0]
      exact ⟨q0, by rw [h65 _ q0.1 q0.2]; exact q1⟩
    · rw [h9] at k1
      rw [h257 j j0, h257 k (by omega)]
      exact d3 j k j0 jk k1
    · rw [h65 x x0 x1] at hx
      obtain ⟨k, k0, k1, k2⟩ := d4 x x0 x1 hx
      exact ⟨k, k0, by rw [h9]; exact k1, by rw [h257 k k0]; exact k2⟩
theorem ag_nz {c : Int} (hG : iv_G s) (h0 : 0 ≤ c) (h1 : c < 24) : ag_ s c (41 + c) ≠ 0 := by
  rw [ag_col hG (Or.inr ⟨h0, h1⟩) h0 h1]
  by_cases h : s (41 + c) = 0
  · rw [if_pos ⟨rfl, h⟩]
    decide
  · rw [if_neg (fun q => h q.2)]
    exact h
/-- one urn is made grey on both sides -/
theorem c_gz {c : Int} (hr : hr_ μ s) (h : zg_ t s) (hc : ft_ s c) : ∃ μ1, f_X2_makeGrey μ c = some μ1 ∧ f_X12_greysIfWhite (um_ ν 1 s) c = some (um_ ν 1 (ag_ s c)) ∧ hr_ μ1 (ag_ s c) ∧ zg_ t (ag_ s c) ∧ gr_ (fun x => x = c) s (ag_ s c) ∧ ∀ k, 12 ≤ k → μ1 k = μ k := by
  have hG := h.2.2.2.2.2.2.2.1
  have hT := h.2.1
  obtain ⟨μ1, a1, a2, a3⟩ := c_makeGrey hr hT hc ⟨hG.1.2, hG.1.1⟩
  have e := e_greysIfWhite (ν := um_ ν 1 s) (ft_or hc) (by rw [um_self]; exact hT) (by rw [um_self]; exact g_le hG)
  rw [um_self, um_um] at e
  exact ⟨μ1, a1, e, a2, ag_gz h hc, gr_ag hG (ft_or hc), a3⟩
theorem l_rn {J : mu_T → Option mu_T} {J' : mu_T → Option (Int × mu_T)} : ∀ (n : Nat) (i : Int), 0 ≤ i → i + n = 6 → ∀ f : Nat, n < f → ∀ (μ : mu_T) (s : Int → Int), hr_ μ s → zg_ t s → ∃ (μ' : mu_T) (s' : Int → Int), f_X10_markRoots_L10 J f i μ = J μ' ∧ f_X12_beginsRound_L9 J' f i (um_ ν 1 s) = J' (um_ ν 1 s') ∧ hr_ μ' s' ∧ zg_ t s' ∧ gr_ (fun x => ∃ k, i ≤ k ∧ k < 6 ∧ s (11 + k) = x) s s' ∧ (∀ k, i ≤ k → k < 6 → s (11 + k) ≠ -15 → s' (41 + s (11 + k)) ≠ 0) ∧ ∀ k, 12 ≤ k → μ' k = μ k := by
  intro n
  induction n with
  | zero =>
    intro i i0 hi f hf μ s hr hz
    obtain ⟨f', rfl⟩ : ∃ f', f = f' + 1 := ⟨f - 1, by omega⟩
    refine ⟨μ, s, ?_, ?_, hr, hz, gr_zz (fun x q => by obtain ⟨k, q0, q1, -⟩ := q; omega), fun k a b => by omega, fun _ _ => rfl⟩
    · rw [f_X10_markRoots_L10, lt_n (by omega) (by decide) (by omega)]
    · rw [f_X12_beginsRound_L9, lt_n (by omega) (by decide) (by omega)]
  | succ n ih =>
    intro i i0 hi f hf μ s hr hz
    obtain ⟨f', rfl⟩ : ∃ f', f = f' + 1 := ⟨f - 1, by omega⟩
    have hc := hz.2.2.2.2.2.1 i i0 (by omega)
    obtain ⟨μ1, a1, a2, a3, a4, a5, a6⟩ := c_gz (ν := ν) hr hz hc
    obtain ⟨μ', s', b1, b2, b3, b4, b5, b6, b7⟩ := ih (i + 1) (by omega) (by omega) f' (by omega) μ1 (ag_ s (s (11 + i))) a3 a4
    have hgr : gr_ (fun x => ∃ k, i ≤ k ∧ k < 6 ∧ s (11 + k) = x) s s' := gr_t a5 b5 (fun x => ⟨fun q => by
        obtain ⟨k, q0, q1, q2⟩ := q
        by_cases hk : k = i
        · exact Or.inl (by rw [← q2, hk])
        · exact Or.inr ⟨k, by omega, q1, by rw [a5.1 (11 + k) (by omega) (by omega) (by omega)]; exact q2⟩, fun q => by
        rcases q with q | ⟨k, q0, q1, q2⟩
        · exact ⟨i, Int.le_refl _, by omega, q.symm⟩
        · rw [a5.1 (11 + k) (by omega) (by omega) (by omega)] at q2
          exact ⟨k, by omega, q1, q2⟩⟩)
    refine ⟨μ', s', ?_, ?_, b3, b4, hgr, fun k k0 k1 k2 => ?_, fun k hk => (b7 k hk).trans (a6 k hk)⟩
    · rw [f_X10_markRoots_L10, lt_y (by omega) (by decide) (by omega), rd_e i0 (by omega), hr.2.2.2.2.2.1 i i0 (by omega), a1, bd_some, nm_q, b1]
    · rw [f_X12_beginsRound_L9, lt_y (by omega) (by decide) (by omega), rd_e (by omega) (by omega), um_self, a2, bd_some, nm_q, b2]
    · have e := a5.1 (11 + k) (by omega) (by omega) (by omega)
      by_cases hk : k = i
      · subst hk
        have hb := ft_in hc k2
        have q := ag_nz hz.2.2.2.2.2.2.2.1 hb.1 hb.2
        rw [b5.2.1 _ hb.1 hb.2 q]
        exact q
      · have q := b6 k (by omega) k1 (by rw [e]; exact k2)
        rw [e] at q
        exact q
theorem l_rd {J' : mu_T → Option (Int × mu_T)} {N : Int} (hN : N ≤ 24) : ∀ (n : Nat) (i : Int), 0 ≤ i → i + n = N → ∀ f : Nat, n < f → ∀ (μ : mu_T) (s : Int → Int), s 9 = N → hr_ μ s → zg_ t s → ∃ (μ' : mu_T) (s' : Int → Int), f_X10_markRoots_L40 f i μ = some μ' ∧ f_X12_beginsRound_L36 J' f i (um_ ν 1 s) = J' (um_ ν 1 s') ∧ hr_ μ' s' ∧ zg_ t s' ∧ gr_ (fun x => ∃ k, i ≤ k ∧ k < N ∧ s (257 + k) = x) s s' ∧ (∀ k, i ≤ k → k < N → s' (41 + s (257 + k)) ≠ 0) ∧ ∀ k, 12 ≤ k → μ' k = μ k := by
  intro n
  induction n with
  | zero =>
    intro i i0 hi f hf μ s hs hr hz
    obtain ⟨f', rfl⟩ : ∃ f', f = f' + 1 := ⟨f - 1, by omega⟩
    refine ⟨μ, s, ?_, ?_, hr, hz, gr_zz (fun x q => by obtain ⟨k, q0, q1, -⟩ := q; omega), fun k a b => by omega, fun _ _ => rfl⟩
    · rw [f_X10_markRoots_L40, nm_q, hr.2.2.2.2.2.2.2.2.1.1, hs, lt_n (by omega) (by omega) (by omega)]
    · rw [f_X12_beginsRound_L36, rd_e (by omega) (by omega), um_self, hs, lt_n (by omega) (by omega) (by omega)]
  | succ n ih =>
    intro i i0 hi f hf μ s hs hr hz
    obtain ⟨f', rfl⟩ : ∃ f', f = f' + 1 := ⟨f - 1, by omega⟩
    have hd := hz.2.2.2.2.2.2.1.2.1 i i0 (by omega)
    have hc : ft_ s (s (257 + i)) := by
      refine Or.inr ⟨hd.1.1, hd.1.2, ?_⟩
      have q := hz.2.1 _ hd.1.1 hd.1.2
      omega
    obtain ⟨μ1, a1, a2, a3, a4, a5, a6⟩ := c_gz (ν := ν) hr hz hc
    obtain ⟨μ', s', b1, b2, b3, b4, b5, b6, b7⟩ := ih (i + 1) (by omega) (by omega) f' (by omega) μ1 (ag_ s (s (257 + i))) ((a5.1 9 (by omega) (by omega) (by omega)).trans hs) a3 a4
    have e10 := hr.2.2.2.2.2.2.2.2.1
    have hgr : gr_ (fun x => ∃ k, i ≤ k ∧ k < N ∧ s (257 + k) = x) s s' := gr_t a5 b5 (fun x => ⟨fun q => by
        obtain ⟨k, q0, q1, q2⟩ := q
        by_cases hk : k = i
        · exact Or.inl (by rw [← q2, hk])
        · exact Or.inr ⟨k, by omega, q1, by rw [a5.1 (257 + k) (by omega) (by omega) (by omega)]; exact q2⟩, fun q => by
        rcases q with q | ⟨k, q0, q1, q2⟩
        · exact ⟨i, Int.le_refl _, by omega, q.symm⟩
        · rw [a5.1 (257 + k) (by omega) (by omega) (by omega)] at q2
          exact ⟨k, by omega, q1, q2⟩⟩)
    refine ⟨μ', s', ?_, ?_, b3, b4, hgr, fun k k0 k1 => ?_, fun k hk => (b7 k hk).trans (a6 k hk)⟩
    · have e : f_X9_at_o10 μ i = some (s (257 + i)) := by
        unfold f_X9_at_o10
        rw [lt_n (by omega) (by decide) (by omega), nm_q, e10.1, lt_y (by omega) (by omega) (by omega), lt_y (by omega) (by decide) (by omega), rd_e i0 (by omega), e10.2 i i0 (by omega)]
      rw [f_X10_markRoots_L40, nm_q, e10.1, hs, lt_y (by omega) (by omega) (by omega), e, bd_some, a1, bd_some, nm_q, b1]
    · rw [f_X12_beginsRound_L36, rd_e (by omega) (by omega), um_self, hs, lt_y (by omega) (by omega) (by omega), rd_e (by omega) (by omega), um_self, a2, bd_some, nm_q, b2]
    · have e := a5.1 (257 + k) (by omega) (by omega) (by omega)
      by_cases hk : k = i
      · subst hk
        have q := ag_nz hz.2.2.2.2.2.2.2.1 hd.1.1 hd.1.2
        rw [b5.2.1 _ hd.1.1 hd.1.2 q]
        exact q
      · have q := b6 k (by omega) k1
        rw [e] at q
        exact q
/-- a round begins: both sides -/
theorem c_begin (h : hi_ t μ ν) (hp : ν 1 0 = 0) : ∃ (μ1 : mu_T) (s' : Int → Int), f_X10_markRoots μ = some μ1 ∧ f_X12_beginsRound ν = some (s' 8, um_ ν 1 s') ∧ hr_ μ1 s' ∧ iv_ t s' ∧ s' 0 = 1 ∧ s' 4 = ν 1 4 ∧ (∀ k, 12 ≤ k → μ1 k = μ k) ∧ gr_ (fun x => (∃ k, 0 ≤ k ∧ k < 6 ∧ ν 1 (11 + k) = x) ∨ ∃ k, 0 ≤ k ∧ k < ν 1 9 ∧ ν 1 (257 + k) = x) (ur_ (ν 1) 0 1) s' := by
  obtain ⟨hr, hT, hP, hH, hW, hM, hD, hG, hL, hC⟩ := h
  obtain ⟨F, hF, hF2⟩ := F_big
  have k0 : ∀ j, j ≠ 0 → ur_ (ν 1) 0 1 j = ν 1 j := fun j hj => ur_n hj
  have hz : zg_ t (ur_ (ν 1) 0 1) := by
    refine ⟨ur_y, iv_T_k (fun j a b => k0 j (by omega)) hT, ⟨by rw [ur_y]; omega, by rw [k0 1 (by omega)]; exact hP.2.1, fun _ => by rw [k0 1 (by omega)]; exact hP.2.2 (by omega)⟩, iv_H_k (fun j a b => k0 j (by omega)) (fun k a b => Or.inl (k0 _ (by omega))) hH, fun x x0 x1 => ?_, fun k a b => ?_, ⟨⟨by rw [k0 9 (by omega)]; exact hD.1.1, ?_⟩, fun k a b => ?_, fun j k a b c => ?_, fun c a b d => ?_⟩, ⟨⟨by rw [k0 8 (by omega)]; exact hG.1.1, ?_⟩, fun k a b => ?_, fun j k a b c => ?_, fun q => absurd ur_y q⟩, iv_L_k (k0 4 (by omega)) (k0 10 (by omega)) hL, iv_C_k (k0 3 (by omega)) (k0 4 (by omega)) (fun j a b => k0 j (by omega)) hC⟩
    · rw [k0 (113 + x) (by omega), ur_y]
      exact ⟨ft_k (fun j a b => k0 j (by omega)) (hW x x0 x1).1, fun q => by omega⟩
    · rw [k0 (11 + k) (by omega)]
      exact ft_k (fun j a b => k0 j (by omega)) (hM k a b).1
    · rw [k0 9 (by omega), hD.1.2]
      exact cn_eq 24 (fun c a b => by rw [k0 (65 + c) (by omega)])
    · rw [k0 9 (by omega)] at b
      obtain ⟨q0, q1, q2⟩ := hD.2.1 k a b
      rw [k0 (257 + k) (by omega), k0 _ (by omega)]
      exact ⟨q0, q1⟩
    · rw [k0 9 (by omega)] at c
      rw [k0 (257 + j) (by omega), k0 (257 + k) (by omega)]
      exact hD.2.2.1 j k a b c
    · rw [k0 _ (by omega)] at d
      obtain ⟨k, q0, q1, q2⟩ := hD.2.2.2 c a b d
      exact ⟨k, q0, by rw [k0 9 (by omega)]; exact q1, by rw [k0 _ (by omega)]; exact q2⟩
    · rw [k0 8 (by omega), hG.1.2]
      exact cn_eq 24 (fun c a b => by rw [k0 (41 + c) (by omega)])
    · rw [k0 8 (by omega)] at b
      have e8 := hG.2.2.2 (by omega)
      omega
    · rw [k0 8 (by omega)] at c
      have e8 := hG.2.2.2 (by omega)
      omega
  have hr1 := hr_sc (j := 0) (v := 1) hr ⟨by omega, by omega, by omega⟩
  obtain ⟨μ2, s2, a1, a2, a3, a4, a5, a6, a7⟩ := l_rn (ν := ν) (J := fun μ38 => f_X10_markRoots_L40 F 0 μ38) (J' := fun μ34 => f_X12_beginsRound_L36 (fun μ67 => rd_ μ67 1 293 8 (fun v73 => some (v73, μ67))) F 0 μ34) 6 0 (by decide) (by decide) F (by omega) (st_ μ 0 9 1) (ur_ (ν 1) 0 1) hr1 hz
  have hle : s2 9 ≤ 24 := by
    rw [a4.2.2.2.2.2.2.1.1.2]
    exact cn_le _ 24
  have h0 := a4.2.2.2.2.2.2.1.1.1
  obtain ⟨μ3, s3, b1, b2, b3, b4, b5, b6, b7⟩ := l_rd (t := t) (ν := ν) (J' := fun μ67 => rd_ μ67 1 293 8 (fun v73 => some (v73, μ67))) (N := s2 9) hle (s2 9).toNat 0 (by decide) (by omega) F (by omega) μ2 s2 rfl a3 a4
  have e03 : s3 0 = 1 := b4.1
  refine ⟨μ3, s3, ?_, ?_, b3, ?_, e03, ?_, fun k hk => ?_, ?_⟩
  · unfold f_X10_markRoots
    rw [← hF2, wf_e, jn_e, a1]
    exact b1
  · unfold f_X12_beginsRound
    rw [← hF2, wr_e (by decide) (by decide), jn_e]
    show f_X12_beginsRound_L9 (fun μ34 => f_X12_beginsRound_L36 (fun μ67 => rd_ μ67 1 293 8 (fun v73 => some (v73, μ67))) F 0 μ34) F 0 (um_ ν 1 (ur_ (ν 1) 0 1)) = _
    rw [a2]
    show f_X12_beginsRound_L36 _ F 0 _ = _
    rw [b2]
    show rd_ (um_ ν 1 s3) 1 293 8 (fun v73 => some (v73, um_ ν 1 s3)) = _
    rw [rd_e (by decide) (by decide), um_self]
  · obtain ⟨hp3, hT3, hP3, hH3, hW3, hM3, hD3, hG3, hL3, hC3⟩ := b4
    have nm : ∀ k, 0 ≤ k → k < 6 → s3 (11 + k) = s2 (11 + k) := fun k k0 k1 => b5.1 _ (by omega) (by omega) (by omega)
    have nm2 : ∀ k, 0 ≤ k → k < 6 → s2 (11 + k) = ur_ (ν 1) 0 1 (11 + k) := fun k k0 k1 => a5.1 _ (by omega) (by omega) (by omega)
    have e9 : s3 9 = s2 9 := b5.1 _ (by omega) (by omega) (by omega)
    refine ⟨hT3, hP3, hH3, hW3, fun k k0 k1 => ⟨hM3 k k0 k1, fun q => ?_⟩, ⟨hD3.1, fun k k0 k1 => ⟨(hD3.2.1 k k0 k1).1, (hD3.2.1 k k0 k1).2, ?_⟩, hD3.2.2.1, hD3.2.2.2⟩, hG3, hL3, hC3⟩
    · refine ⟨fun _ => ?_, fun z => by omega⟩
      have hb := ft_in (hM3 k k0 k1) q
      rw [nm k k0 k1] at q hb ⊢
      have z := a6 k k0 k1 (by rw [← nm2 k k0 k1]; exact q)
      rw [← nm2 k k0 k1] at z
      rw [b5.2.1 _ hb.1 hb.2 z]
      exact z
    · refine ⟨fun _ => ?_, fun z => by omega⟩
      rw [b5.1 (257 + k) (by omega) (by omega) (by omega)]
      exact b6 k k0 (by rw [← e9]; exact k1)
  · rw [b5.1 4 (by omega) (by omega) (by omega), a5.1 4 (by omega) (by omega) (by omega), k0 4 (by omega)]
  · rw [b7 k hk, a7 k hk, st_n (by omega)]
  · have e9 : s2 9 = ν 1 9 := (a5.1 9 (by omega) (by omega) (by omega)).trans (k0 9 (by omega))
    refine gr_t a5 b5 (fun x => ⟨fun q => ?_, fun q => ?_⟩)
    · rcases q with ⟨k, q0, q1, q2⟩ | ⟨k, q0, q1, q2⟩
      · exact Or.inl ⟨k, q0, q1, by rw [k0 (11 + k) (by omega)]; exact q2⟩
      · exact Or.inr ⟨k, q0, by omega, by rw [a5.1 (257 + k) (by omega) (by omega) (by omega), k0 (257 + k) (by omega)]; exact q2⟩
    · rcases q with ⟨k, q0, q1, q2⟩ | ⟨k, q0, q1, q2⟩
      · exact Or.inl ⟨k, q0, q1, by rw [k0 (11 + k) (by omega)] at q2; exact q2⟩
      · exact Or.inr ⟨k, q0, by omega, by rw [a5.1 (257 + k) (by omega) (by omega) (by omega), k0 (257 + k) (by omega)] at q2; exact q2⟩
theorem be_B {T : Int → Prop} {s s' : Int → Int} (hI : iv_ t s) (h0 : s 0 = 0) (h : gr_ T (ur_ s 0 1) s') (hB : iv_B s) : iv_B s' := by
  have hH : iv_H (ur_ s 0 1) := iv_H_k (fun j a b => ur_n (by omega)) (fun k a b => Or.inl (ur_n (by omega))) hI.2.2.1
  refine gr_B ur_y hH h ?_
  obtain ⟨b0, b1, b2, b3, b4⟩ := hB
  refine ⟨fun k k0 k1 hk => ?_, fun _ k k0 k1 hk => ?_, fun q => by rw [ur_y] at q; omega, fun q => by rw [ur_y] at q; omega, fun q => by rw [ur_y] at q; omega⟩
  · rw [ur_n (by omega)] at hk ⊢
    exact b0 k k0 k1 hk
  · rw [ur_n (by omega), b3 h0 (k / 4) (by omega) (by omega)] at hk
    omega
def w_begin (ν : mu_T) : Option (Int × mu_T) := rd_ ν 1 293 0 (fun v10 => lt_ 0 v10 (rd_ ν 1 293 0 (fun v21 => f_X12_refused ν 4 v21)) (bp_ (f_X12_beginsRound ν) (fun v30 μ30 => f_X12_done μ30 v30)))
theorem bp_bp {α β γ δ ε ζ : Type} {x : Option (α × β)} {f : α → β → Option (γ × δ)} {g : γ → δ → Option (ε × ζ)} : bp_ (bp_ x f) g = bp_ x (fun a b => bp_ (f a b) g) := by
  cases x <;> rfl
theorem e_begin (ν : mu_T) : f_X12_begin ν = wM_ w_begin ν := by
  unfold f_X12_begin wM_ w_begin
  congr 1
  funext μ1
  rw [bp_rd]
  congr 1
  funext v
  rw [bp_lt_, bp_rd, bp_bp]
theorem op_begin (h : hi_ t μ ν) : op_ t μ ν (f_X10_beginRound μ) (w_begin ν) := by
  have hP := h.2.2.1.1
  unfold f_X10_beginRound w_begin
  rw [nm_q, h.1.2.2.2.2.2.2.2.2.2.1, rd_e (by decide) (by decide)]
  by_cases h0 : ν 1 0 = 0
  · obtain ⟨μ1, s', a1, a2, a3, a4, a5, a6, a7, a8⟩ := c_begin h h0
    have q := g_le a4.2.2.2.2.2.2.1
    rw [eq_y h0, lt_n (by decide) (by omega) (by omega), a1, a2, bd_some, bp_some, nm_q, a3.2.2.2.2.2.2.2.1.1, e_done]
    exact op_done a3 (iv_mono (by omega) a4) a7 (by omega) ⟨by omega, by omega⟩ (fun hB => be_B h.2 h0 a8 hB)
  · rw [eq_n (by omega) (by decide) h0, lt_y (by decide) (by omega) (by omega), nm_q, rd_e (by decide) (by decide), e_refuse, e_refused, bp_some]
    exact op_ref h ⟨by omega, by omega⟩
theorem p_begin : pf_begin RR_ := fun t μ ν _ hR => by
  rw [e_begin]
  exact wr_op (x := f_X10_beginRound) (y := w_begin) (fun t μ ν q => op_begin q) t μ ν hR
end RW
