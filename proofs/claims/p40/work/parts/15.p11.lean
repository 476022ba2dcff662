/-! a rite is done -/
/-- a row whose first is taken -/
def sh_ (s : Int → Int) (b i n : Int) : Int → Int := fun j => if b + i ≤ j ∧ j < b + n then s (j + 1) else s j
section RT
variable {t : Int} {s : Int → Int} {μ ν : mu_T}
theorem l_dr {J : mu_T → Option (Int × mu_T)} {N : Int} (hN : N ≤ 23) : ∀ (n : Nat) (i : Int), 0 ≤ i → i + n = N → ∀ f : Nat, n < f → ∀ s : Int → Int, s 9 = N → f_X12_doesRite_L45 J f i (um_ ν 1 s) = J (um_ ν 1 (sh_ s 257 i N)) := by
  intro n
  induction n with
  | zero =>
    intro i i0 hi f hf s hs
    obtain ⟨f', rfl⟩ : ∃ f', f = f' + 1 := ⟨f - 1, by omega⟩
    have e : sh_ s 257 i N = s := by
      funext j
      simp only [sh_]
      omega
    rw [f_X12_doesRite_L45, rd_e (by omega) (by omega), um_self, hs, lt_n (by omega) (by omega) (by omega), e]
  | succ n ih =>
    intro i i0 hi f hf s hs
    obtain ⟨f', rfl⟩ : ∃ f', f = f' + 1 := ⟨f - 1, by omega⟩
    rw [f_X12_doesRite_L45, rd_e (by omega) (by omega), um_self, hs, lt_y (by omega) (by omega) (by omega), rd_e (by omega) (by omega), um_self, wr_e (by omega) (by omega), st_um, nm_q, ih (i + 1) (by omega) (by omega) f' (by omega) _ (by rw [ur_n (by omega)]; exact hs)]
    congr 2
    funext j
    simp only [sh_, ur_]
    by_cases hj : j = 257 + i
    · subst hj
      simp only [if_true] <;> omega
    · omega
/-- the row behind a rite -/
def ri_ (s : Int → Int) : Int → Int := ur_ (ur_ (ur_ (sh_ (ur_ s 9 (s 9 - 1)) 257 0 (s 9 - 1)) (257 + (s 9 - 1)) 0) (65 + s 257) 0) 5 (s 5 + 1)
theorem d_le (hD : iv_D s) : s 9 ≤ 24 := by
  rw [hD.1.2]
  exact cn_le _ 24
theorem ri_iv (hI : iv_ t s) (h9 : 0 < s 9) : iv_ t (ri_ s) := by
  obtain ⟨hT, hP, hH, hW, hM, hD, hG, hL, hC⟩ := hI
  have hle := d_le hD
  obtain ⟨⟨d0, d1⟩, d2, d3, d4⟩ := hD
  obtain ⟨c0, c1, c2⟩ := d2 0 (by omega) h9
  rw [Int.add_zero] at c0 c1 c2
  have low : ∀ j, j < 65 → j ≠ 9 → j ≠ 5 → ri_ s j = s j := fun j a b c => by
    simp only [ri_, sh_, ur_] <;> omega
  have mid : ∀ j, 89 ≤ j → (j < 257 ∨ 281 ≤ j) → ri_ s j = s j := fun j a b => by
    simp only [ri_, sh_, ur_] <;> omega
  have e9 : ri_ s 9 = s 9 - 1 := by
    simp only [ri_, sh_, ur_, if_true] <;> omega
  have e65 : ∀ x, 0 ≤ x → x < 24 → ri_ s (65 + x) = if x = s 257 then 0 else s (65 + x) := fun x a b => by
    simp only [ri_, sh_, ur_] <;> omega
  have e257 : ∀ k, 0 ≤ k → k < s 9 - 1 → ri_ s (257 + k) = s (257 + (k + 1)) := fun k a b => by
    have e : (257 : Int) + k + 1 = 257 + (k + 1) := by omega
    simp only [ri_, sh_, ur_, e] <;> omega
  refine ⟨fun x x0 x1 => ?_, iv_P_k ⟨low 0 (by omega) (by omega) (by omega), low 1 (by omega) (by omega) (by omega)⟩ hP, iv_H_k (fun j a b => low j (by omega) (by omega) (by omega)) (fun k a b => Or.inl (mid _ (by omega) (by omega))) hH, iv_W_k ⟨low 0 (by omega) (by omega) (by omega), low 1 (by omega) (by omega) (by omega)⟩ (fun j a b => low j (by omega) (by omega) (by omega)) (fun c a b => Or.inl (mid _ (by omega) (by omega))) hW, iv_M_k ⟨low 0 (by omega) (by omega) (by omega), low 1 (by omega) (by omega) (by omega)⟩ (fun j a b => low j (by omega) (by omega) (by omega)) (fun c a b => Or.inl (low _ (by omega) (by omega) (by omega))) hM, ⟨⟨by omega, ?_⟩, fun k k0 k1 => ?_, fun j k j0 jk k1 => ?_, fun x x0 x1 hx => ?_⟩, iv_G_k (low 0 (by omega) (by omega) (by omega)) (low 8 (by omega) (by omega) (by omega)) (fun j a b => low j (by omega) (by omega) (by omega)) (fun k a b => mid _ (by omega) (by have := cn_le (fun c => decide (s (41 + c) = 1)) 24; have := hG.1.2; omega)) hG, iv_L_k (low 4 (by omega) (by omega) (by omega)) (low 10 (by omega) (by omega) (by omega)) hL, iv_C_k (low 3 (by omega) (by omega) (by omega)) (low 4 (by omega) (by omega) (by omega)) (fun j a b => low j (by omega) (by omega) (by omega)) hC⟩
  · rw [low (17 + x) (by omega) (by omega) (by omega), low (41 + x) (by omega) (by omega) (by omega), e65 x x0 x1]
    have q := hT x x0 x1
    omega
  · have e := cn_up (p := fun x => decide (s (65 + x) = 2)) (q := fun x => decide (ri_ s (65 + x) = 2)) c0.1 24 (fun x x0 x1 xn => by
      show decide (ri_ s (65 + x) = 2) = decide (s (65 + x) = 2)
      rw [e65 x x0 (by omega), if_neg xn])
    have e1 : decide (ri_ s (65 + s 257) = 2) = false := by
      rw [e65 _ c0.1 c0.2, if_pos rfl]
      rfl
    have e2 : decide (s (65 + s 257) = 2) = true := by
      rw [c1]
      rfl
    rw [e, e9, if_pos (by omega), ← d1, e1, e2, if_neg (by decide), if_pos rfl]
    omega
  · rw [e9] at k1
    rw [e257 k k0 k1]
    obtain ⟨q0, q1, q2⟩ := d2 (k + 1) (by omega) (by omega)
    have hn := d3 0 (k + 1) (by omega) (by omega) (by omega)
    rw [Int.add_zero] at hn
    refine ⟨q0, by rw [e65 _ q0.1 q0.2, if_neg (Ne.symm hn)]; exact q1, sf_k ⟨low 0 (by omega) (by omega) (by omega), low 1 (by omega) (by omega) (by omega)⟩ (low _ (by omega) (by omega) (by omega)) q2⟩
  · rw [e9] at k1
    rw [e257 j j0 (by omega), e257 k (by omega) k1]
    exact d3 (j + 1) (k + 1) (by omega) (by omega) (by omega)
  · rw [e65 x x0 x1] at hx
    by_cases hxc : x = s 257
    · rw [if_pos hxc] at hx
      omega
    · rw [if_neg hxc] at hx
      obtain ⟨k, k0, k1, k2⟩ := d4 x x0 x1 hx
      have hk : k ≠ 0 := fun q => by
        rw [q, Int.add_zero] at k2
        exact hxc k2.symm
      refine ⟨k - 1, by omega, by omega, ?_⟩
      rw [e257 _ (by omega) (by omega), show k - 1 + 1 = k by omega]
      exact k2
theorem ri_hr (hr : hr_ μ s) (hle : 0 < s 9 ∧ s 9 ≤ 24) (hc : 0 ≤ s 257 ∧ s 257 < 24) (h8 : s 8 ≤ 24) (hL : iv_L s) : hr_ (um_ (um_ (um_ (um_ μ 10 (ur_ (μ 10) 1 (s 9 - 1))) 11 (fun j => if 0 ≤ j ∧ j < 0 + (s 9 - 1) then μ 11 (1 + (j - 0)) else μ 11 j)) 3 (ur_ (μ 3) (s 257) 0)) 0 (ur_ (μ 0) 14 (s 5 + 1))) (ri_ s) := by
  obtain ⟨r1, r2, r3, r4, r5, r6, r7, ⟨r8, r9⟩, ⟨r10, r11⟩, r12, r13, r14, r15, r16, r17, r18, r19⟩ := hr
  obtain ⟨l1, l2, l3⟩ := hL
  refine ⟨fun k k0 k1 => ?_, fun k k0 k1 => ?_, fun k k0 k1 => ?_, fun k k0 k1 => ?_, fun k k0 k1 kt => ?_, fun k k0 k1 => ?_, fun k k0 k1 => ?_, ⟨?_, fun k k0 k1 => ?_⟩, ⟨?_, fun k k0 k1 => ?_⟩, ?_, ?_, ?_, ?_, ?_, ?_, ?_, ?_⟩
  · have q := r1 k k0 k1
    show (μ 1) k = _
    simp only [ri_, sh_, ur_, if_true] <;> omega
  · have q := r2 k k0 k1
    show (μ 2) k = _
    simp only [ri_, sh_, ur_, if_true] <;> omega
  · have q := r3 k k0 k1
    show (ur_ (μ 3) (s 257) 0) k = _
    by_cases hk : k = s 257
    · subst hk
      simp only [ri_, sh_, ur_, if_true, if_true] <;> omega
    · skip
      simp only [ri_, sh_, ur_, if_true] <;> omega
  · have q := r4 k k0 k1
    show (μ 4) k = _
    simp only [ri_, sh_, ur_, if_true] <;> omega
  · have q := r5 k k0 k1
    show (μ 5) k = _
    simp only [ri_, sh_, ur_, if_true] at kt ⊢ <;> omega
  · have q := r6 k k0 k1
    show (μ 6) k = _
    simp only [ri_, sh_, ur_, if_true] <;> omega
  · have q := r7 k k0
    rw [show (ri_ s) 4 = s 4 from by simp only [ri_, sh_, ur_, if_true] <;> omega]
    show (μ 7) _ = _
    simp only [ri_, sh_, ur_, if_true] at k1 ⊢ <;> omega
  · show (μ 8) 1 = _
    simp only [ri_, sh_, ur_, if_true] <;> omega
  · have q := r9 k k0
    show (μ 9) k = _
    simp only [ri_, sh_, ur_, if_true] at k1 ⊢ <;> omega
  · show (ur_ (μ 10) 1 (s 9 - 1)) 1 = _
    simp only [ri_, sh_, ur_, if_true] <;> omega
  · have q := r11 k k0
    show (fun j => if 0 ≤ j ∧ j < 0 + (s 9 - 1) then μ 11 (1 + (j - 0)) else μ 11 j) k = _
    have q2 := r11 (k + 1) (by omega)
    have e : (257 : Int) + k + 1 = 257 + (k + 1) := by omega
    have e2 : 1 + (k - 0) = k + 1 := by omega
    simp only [e2]
    simp only [ri_, sh_, ur_, if_true, e] at k1 ⊢ <;> omega
  · show (ur_ (μ 0) 14 (s 5 + 1)) 9 = _
    simp only [ri_, sh_, ur_, if_true] <;> omega
  · show (ur_ (μ 0) 14 (s 5 + 1)) 10 = _
    simp only [ri_, sh_, ur_, if_true] <;> omega
  · show (ur_ (μ 0) 14 (s 5 + 1)) 11 = _
    simp only [ri_, sh_, ur_, if_true] <;> omega
  · show (ur_ (μ 0) 14 (s 5 + 1)) 12 = _
    simp only [ri_, sh_, ur_, if_true] <;> omega
  · show (ur_ (μ 0) 14 (s 5 + 1)) 13 = _
    simp only [ri_, sh_, ur_, if_true] <;> omega
  · show (ur_ (μ 0) 14 (s 5 + 1)) 14 = _
    simp only [ri_, sh_, ur_, if_true] <;> omega
  · show (ur_ (μ 0) 14 (s 5 + 1)) 15 = _
    simp only [ri_, sh_, ur_, if_true] <;> omega
  · show (ur_ (μ 0) 14 (s 5 + 1)) 16 = _
    simp only [ri_, sh_, ur_, if_true] <;> omega
theorem op_rite (h : hi_ t μ ν) : op_ t μ ν (f_X10_doRite μ) (f_X12_doesRite ν) := by
  obtain ⟨hr, hI⟩ := id h
  have hr0 := hr
  obtain ⟨hT, hP, hH, hW, hM, hD, hG, hL, hC⟩ := id hI
  obtain ⟨r1, r2, r3, r4, r5, r6, r7, ⟨r8, r9⟩, ⟨r10, r11⟩, r12, r13, r14, r15, r16, r17, r18, r19⟩ := hr
  have hle := d_le hD
  have h0 := hD.1.1
  by_cases h9 : ν 1 9 = 0
  · have eX : f_X10_doRite μ = some (-14, st_ (st_ μ 133 0 6) 133 1 (ν 1 5)) := by
      unfold f_X10_doRite f_X9_takeFirst_o10
      rw [nm_q, r10, lt_n (by decide) (by omega) (by omega), bp_some, e_isCell (by decide), bd_some, tr_0, if_neg (by decide), nm_q, r17, e_refuse, bp_some]
    have eM : f_X12_doesRite ν = some (6, st_ ν 0 14 (ν 1 5)) := by
      unfold f_X12_doesRite
      rw [rd_e (by omega) (by omega), eq_y h9, rd_e (by omega) (by omega), e_refused, bp_some]
    rw [eX, eM]
    exact op_ref h ⟨by omega, by omega⟩
  · obtain ⟨c0, c1, c2⟩ := hD.2.1 0 (by omega) (by omega)
    have q11 := r11 0 (by omega) (by omega)
    rw [Int.add_zero] at c0 c1 c2 q11
    have eX : f_X10_doRite μ = some (ν 1 257, um_ (um_ (um_ (um_ μ 10 (ur_ (μ 10) 1 (ν 1 9 - 1))) 11 (fun j => if 0 ≤ j ∧ j < 0 + (ν 1 9 - 1) then μ 11 (1 + (j - 0)) else μ 11 j)) 3 (ur_ (μ 3) (ν 1 257) 0)) 0 (ur_ (μ 0) 14 (ν 1 5 + 1))) := by
      unfold f_X10_doRite f_X9_takeFirst_o10
      rw [nm_q, r10, lt_y (by decide) (by omega) (by omega), rd_e (by omega) (by omega), nm_q, wf_e, nm_q, st_s, if_pos rfl, q11]
      unfold ac_
      rw [if_pos ⟨by omega, by omega, by omega, by omega, by omega⟩, bp_some, e_isCell (by omega), bd_some, tr_0, if_pos c0, wr_e (by omega) (by omega), nm_q, wf_e]
      show some (_, um_ (um_ (um_ (um_ μ 10 _) 11 _) 3 _) 0 (ur_ (μ 0) 14 (μ 0 14 + 1))) = _
      rw [r17]
      rfl
    obtain ⟨F, hF, hF2⟩ := F_big
    have eM : f_X12_doesRite ν = some (0, st_ (um_ ν 1 (ri_ (ν 1))) 0 15 (ν 1 257)) := by
      unfold f_X12_doesRite
      rw [← hF2, rd_e (by omega) (by omega), eq_n (by omega) (by decide) h9, rd_e (by omega) (by omega), rd_e (by omega) (by omega), wr_e (by omega) (by omega), jn_e]
      show f_X12_doesRite_L45 _ F 0 (um_ ν 1 (ur_ (ν 1) 9 (ν 1 9 - 1))) = _
      rw [l_dr (N := ν 1 9 - 1) (by omega) (ν 1 9 - 1).toNat 0 (by decide) (by omega) F (by omega) _ ur_y]
      have z9 : sh_ (ur_ (ν 1) 9 (ν 1 9 - 1)) 257 0 (ν 1 9 - 1) 9 = ν 1 9 - 1 := by
        simp only [sh_, ur_, if_true] <;> omega
      have z5 : ur_ (ur_ (sh_ (ur_ (ν 1) 9 (ν 1 9 - 1)) 257 0 (ν 1 9 - 1)) (257 + (ν 1 9 - 1)) 0) (65 + ν 1 257) 0 5 = ν 1 5 := by
        simp only [sh_, ur_, if_true] <;> omega
      rw [rd_e (by omega) (by omega), um_self, z9, wr_e (by omega) (by omega), st_um, wr_e (by omega) (by omega), st_um, rd_e (by omega) (by omega), um_self, z5, wr_e (by omega) (by omega), st_um, e_done, bp_some]
      rfl
    rw [eX, eM]
    have h8 : ν 1 8 ≤ 24 := by
      rw [hG.1.2]
      exact cn_le _ 24
    exact op_done (ri_hr hr0 ⟨by omega, hle⟩ c0 h8 hL) (iv_mono (by omega) (ri_iv hI (by omega))) (fun k hk => by rw [um_ne (by omega), um_ne (by omega), um_ne (by omega), um_ne (by omega)]) (by omega) ⟨by omega, by omega⟩ (fun hB => iv_B_k hH (by simp only [ri_, sh_, ur_] <;> omega) (by simp only [ri_, sh_, ur_] <;> omega) (fun j a b => by simp only [ri_, sh_, ur_] <;> omega) (fun k a b => by simp only [ri_, sh_, ur_] <;> omega) hB)
theorem p_rite : pf_rite RR_ := fun t μ ν _ hR => wr_op (x := f_X10_doRite) (y := f_X12_doesRite) (fun t μ ν q => op_rite q) t μ ν hR
end RT
