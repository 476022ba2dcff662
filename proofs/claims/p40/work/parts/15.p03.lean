/-! what the hands do -/
theorem hr_x {h h' : Nat → Int → Int} {s : Int → Int} (hh : ∀ j, j < 12 → h' j = h j) (hr : hr_ h s) : hr_ h' s := by
  unfold hr_
  rw [hh 0 (by decide), hh 1 (by decide), hh 2 (by decide), hh 3 (by decide), hh 4 (by decide), hh 5 (by decide), hh 6 (by decide), hh 7 (by decide), hh 8 (by decide), hh 9 (by decide), hh 10 (by decide), hh 11 (by decide)]
  exact hr
def hi_ (t : Int) (μ ν : mu_T) : Prop := hr_ μ (ν 1) ∧ iv_ t (ν 1)
theorem iv_mono {t t' : Int} {s : Int → Int} (h : t ≤ t') (hI : iv_ t s) : iv_ t' s := by
  obtain ⟨hT, hP, hH, hW, hM, hD, hG, hL, hC⟩ := hI
  exact ⟨hT, hP, hH, hW, hM, hD, hG, hL, hC.1, by have := hC.2; omega⟩
/-- an act of the program against an act of the reference -/
def op_ (t : Int) (μ ν : mu_T) (x y : Option (Int × mu_T)) : Prop := ∃ (r : Int) (μ1 : mu_T) (c : Int) (ν1 : mu_T), x = some (r, μ1) ∧ y = some (c, ν1) ∧ (∀ k, 12 ≤ k → k ≠ 133 → μ1 k = μ k) ∧ (∀ k, 2 ≤ k → ν1 k = ν k) ∧ (∀ j, j ≠ 14 → j ≠ 15 → ν1 0 j = ν 0 j) ∧ ((c < 0 ∧ r = c ∧ (c = -11 ∨ c = -12) ∧ μ1 133 = μ 133 ∧ hi_ t μ1 ν1 ∧ ν1 1 = ν 1) ∨ ((0 < c ∧ c < 100) ∧ r = -14 ∧ μ1 133 0 = c ∧ μ1 133 1 = ν1 0 14 ∧ hi_ t μ1 ν1 ∧ ν1 1 = ν 1) ∨ (c = 0 ∧ r = ν1 0 15 ∧ (r = -15 ∨ 0 ≤ r) ∧ rg_ r ∧ μ1 133 = μ 133 ∧ hi_ (t + 1) μ1 ν1 ∧ (iv_B (ν 1) → iv_B (ν1 1))))
theorem op_code {t : Int} {μ ν : mu_T} (h : hi_ t μ ν) {c : Int} (hc : c = -11 ∨ c = -12) : op_ t μ ν (some (c, μ)) (some (c, ν)) := ⟨c, μ, c, ν, rfl, rfl, fun _ _ _ => rfl, fun _ _ => rfl, fun _ _ _ => rfl, Or.inl ⟨by omega, rfl, hc, rfl, h, rfl⟩⟩
theorem op_ref {t : Int} {μ ν : mu_T} (h : hi_ t μ ν) {a b : Int} (ha : 0 < a ∧ a < 100) : op_ t μ ν (some (-14, st_ (st_ μ 133 0 a) 133 1 b)) (some (a, st_ ν 0 14 b)) := by
  refine ⟨-14, _, a, _, rfl, rfl, fun k _ hk => ?_, fun k hk => ?_, fun j h4 h5 => ?_, Or.inr (Or.inl ⟨ha, rfl, ?_, ?_, ?_, st_n (by decide)⟩)⟩
  · rw [st_n hk, st_n hk]
  · rw [st_n (by omega)]
  · rw [st_s, if_neg h4]
  · rw [st_s, if_neg (by omega), st_s, if_pos rfl]
  · rw [st_s, if_pos rfl, st_s, if_pos rfl]
  · refine ⟨?_, ?_⟩
    · rw [st_n (by decide)]
      exact hr_x (fun j hj => by rw [st_n (by omega), st_n (by omega)]) h.1
    · rw [st_n (by decide)]
      exact h.2
theorem op_done {t : Int} {μ ν μ1 : mu_T} {s' : Int → Int} {r : Int} (hr : hr_ μ1 s') (hI : iv_ (t + 1) s') (hX : ∀ k, 12 ≤ k → μ1 k = μ k) (hn : r = -15 ∨ 0 ≤ r) (hg : rg_ r) (hB : iv_B (ν 1) → iv_B s') : op_ t μ ν (some (r, μ1)) (some (0, st_ (um_ ν 1 s') 0 15 r)) := by
  have e1 : (st_ (um_ ν 1 s') 0 15 r) 1 = s' := by rw [st_n (by decide), um_self]
  refine ⟨r, μ1, 0, _, rfl, rfl, fun k hk _ => hX k hk, fun k hk => ?_, fun j h4 h5 => ?_, Or.inr (Or.inr ⟨rfl, ?_, hn, hg, hX 133 (by decide), ⟨?_, ?_⟩, by rw [e1]; exact hB⟩)⟩
  · rw [st_n (by omega), um_ne (by omega)]
  · rw [st_s, if_neg h5, um_ne (by decide)]
  · rw [st_s, if_pos rfl]
  · rw [e1]
    exact hr
  · rw [e1]
    exact hI
theorem ft_r {s : Int → Int} {x : Int} (h : ft_ s x) : (x = -15 ∨ 0 ≤ x) ∧ rg_ x := by
  rcases h with q | ⟨q0, q1, -⟩ <;> omega
section HA
variable {t : Int} {s : Int → Int} {μ ν : mu_T}
theorem hr_th (hr : hr_ μ s) {i v : Int} (h0 : 0 ≤ i) (h1 : i < 96) : hr_ (st_ μ 1 i v) (ur_ s (137 + i) v) := by
  obtain ⟨r1, r2, r3, r4, r5, r6, r7, ⟨r8, r9⟩, ⟨r10, r11⟩, r12, r13, r14, r15, r16, r17, r18, r19⟩ := hr
  refine ⟨fun k k0 k1 => ?_, fun k k0 k1 => ?_, fun k k0 k1 => ?_, fun k k0 k1 => ?_, fun k k0 k1 kt => ?_, fun k k0 k1 => ?_, fun k k0 k1 => ?_, ⟨?_, fun k k0 k1 => ?_⟩, ⟨?_, fun k k0 k1 => ?_⟩, ?_, ?_, ?_, ?_, ?_, ?_, ?_, ?_⟩
  · have q := r1 k k0 k1
    show (ur_ (μ 1) i v) k = _
    by_cases hk : k = i
    · subst hk
      simp only [ur_, if_true] <;> omega
    · skip
      simp only [ur_] <;> omega
  · have q := r2 k k0 k1
    show (μ 2) k = _
    simp only [ur_] <;> omega
  · have q := r3 k k0 k1
    show (μ 3) k = _
    simp only [ur_] <;> omega
  · have q := r4 k k0 k1
    show (μ 4) k = _
    simp only [ur_] <;> omega
  · have q := r5 k k0 k1
    show (μ 5) k = _
    simp only [ur_] at kt ⊢ <;> omega
  · have q := r6 k k0 k1
    show (μ 6) k = _
    simp only [ur_] <;> omega
  · have q := r7 k k0
    rw [show (ur_ s (137 + i) v) 4 = s 4 from by simp only [ur_] <;> omega]
    show (μ 7) _ = _
    simp only [ur_] at k1 ⊢ <;> omega
  · show (μ 8) 1 = _
    simp only [ur_] <;> omega
  · have q := r9 k k0
    show (μ 9) k = _
    simp only [ur_] at k1 ⊢ <;> omega
  · show (μ 10) 1 = _
    simp only [ur_] <;> omega
  · have q := r11 k k0
    show (μ 11) k = _
    simp only [ur_] at k1 ⊢ <;> omega
  · show (μ 0) 9 = _
    simp only [ur_] <;> omega
  · show (μ 0) 10 = _
    simp only [ur_] <;> omega
  · show (μ 0) 11 = _
    simp only [ur_] <;> omega
  · show (μ 0) 12 = _
    simp only [ur_] <;> omega
  · show (μ 0) 13 = _
    simp only [ur_] <;> omega
  · show (μ 0) 14 = _
    simp only [ur_] <;> omega
  · show (μ 0) 15 = _
    simp only [ur_] <;> omega
  · show (μ 0) 16 = _
    simp only [ur_] <;> omega
theorem hr_wk (hr : hr_ μ s) {i v : Int} (h0 : 0 ≤ i) (h1 : i < 24) : hr_ (st_ μ 2 i v) (ur_ s (113 + i) v) := by
  obtain ⟨r1, r2, r3, r4, r5, r6, r7, ⟨r8, r9⟩, ⟨r10, r11⟩, r12, r13, r14, r15, r16, r17, r18, r19⟩ := hr
  refine ⟨fun k k0 k1 => ?_, fun k k0 k1 => ?_, fun k k0 k1 => ?_, fun k k0 k1 => ?_, fun k k0 k1 kt => ?_, fun k k0 k1 => ?_, fun k k0 k1 => ?_, ⟨?_, fun k k0 k1 => ?_⟩, ⟨?_, fun k k0 k1 => ?_⟩, ?_, ?_, ?_, ?_, ?_, ?_, ?_, ?_⟩
  · have q := r1 k k0 k1
    show (μ 1) k = _
    simp only [ur_] <;> omega
  · have q := r2 k k0 k1
    show (ur_ (μ 2) i v) k = _
    by_cases hk : k = i
    · subst hk
      simp only [ur_, if_true] <;> omega
    · skip
      simp only [ur_] <;> omega
  · have q := r3 k k0 k1
    show (μ 3) k = _
    simp only [ur_] <;> omega
  · have q := r4 k k0 k1
    show (μ 4) k = _
    simp only [ur_] <;> omega
  · have q := r5 k k0 k1
    show (μ 5) k = _
    simp only [ur_] at kt ⊢ <;> omega
  · have q := r6 k k0 k1
    show (μ 6) k = _
    simp only [ur_] <;> omega
  · have q := r7 k k0
    rw [show (ur_ s (113 + i) v) 4 = s 4 from by simp only [ur_] <;> omega]
    show (μ 7) _ = _
    simp only [ur_] at k1 ⊢ <;> omega
  · show (μ 8) 1 = _
    simp only [ur_] <;> omega
  · have q := r9 k k0
    show (μ 9) k = _
    simp only [ur_] at k1 ⊢ <;> omega
  · show (μ 10) 1 = _
    simp only [ur_] <;> omega
  · have q := r11 k k0
    show (μ 11) k = _
    simp only [ur_] at k1 ⊢ <;> omega
  · show (μ 0) 9 = _
    simp only [ur_] <;> omega
  · show (μ 0) 10 = _
    simp only [ur_] <;> omega
  · show (μ 0) 11 = _
    simp only [ur_] <;> omega
  · show (μ 0) 12 = _
    simp only [ur_] <;> omega
  · show (μ 0) 13 = _
    simp only [ur_] <;> omega
  · show (μ 0) 14 = _
    simp only [ur_] <;> omega
  · show (μ 0) 15 = _
    simp only [ur_] <;> omega
  · show (μ 0) 16 = _
    simp only [ur_] <;> omega
theorem hr_nm (hr : hr_ μ s) {i v : Int} (h0 : 0 ≤ i) (h1 : i < 6) : hr_ (st_ μ 6 i v) (ur_ s (11 + i) v) := by
  obtain ⟨r1, r2, r3, r4, r5, r6, r7, ⟨r8, r9⟩, ⟨r10, r11⟩, r12, r13, r14, r15, r16, r17, r18, r19⟩ := hr
  refine ⟨fun k k0 k1 => ?_, fun k k0 k1 => ?_, fun k k0 k1 => ?_, fun k k0 k1 => ?_, fun k k0 k1 kt => ?_, fun k k0 k1 => ?_, fun k k0 k1 => ?_, ⟨?_, fun k k0 k1 => ?_⟩, ⟨?_, fun k k0 k1 => ?_⟩, ?_, ?_, ?_, ?_, ?_, ?_, ?_, ?_⟩
  · have q := r1 k k0 k1
    show (μ 1) k = _
    simp only [ur_] <;> omega
  · have q := r2 k k0 k1
    show (μ 2) k = _
    simp only [ur_] <;> omega
  · have q := r3 k k0 k1
    show (μ 3) k = _
    simp only [ur_] <;> omega
  · have q := r4 k k0 k1
    show (μ 4) k = _
    simp only [ur_] <;> omega
  · have q := r5 k k0 k1
    show (μ 5) k = _
    simp only [ur_] at kt ⊢ <;> omega
  · have q := r6 k k0 k1
    show (ur_ (μ 6) i v) k = _
    by_cases hk : k = i
    · subst hk
      simp only [ur_, if_true] <;> omega
    · skip
      simp only [ur_] <;> omega
  · have q := r7 k k0
    rw [show (ur_ s (11 + i) v) 4 = s 4 from by simp only [ur_] <;> omega]
    show (μ 7) _ = _
    simp only [ur_] at k1 ⊢ <;> omega
  · show (μ 8) 1 = _
    simp only [ur_] <;> omega
  · have q := r9 k k0
    show (μ 9) k = _
    simp only [ur_] at k1 ⊢ <;> omega
  · show (μ 10) 1 = _
    simp only [ur_] <;> omega
  · have q := r11 k k0
    show (μ 11) k = _
    simp only [ur_] at k1 ⊢ <;> omega
  · show (μ 0) 9 = _
    simp only [ur_] <;> omega
  · show (μ 0) 10 = _
    simp only [ur_] <;> omega
  · show (μ 0) 11 = _
    simp only [ur_] <;> omega
  · show (μ 0) 12 = _
    simp only [ur_] <;> omega
  · show (μ 0) 13 = _
    simp only [ur_] <;> omega
  · show (μ 0) 14 = _
    simp only [ur_] <;> omega
  · show (μ 0) 15 = _
    simp only [ur_] <;> omega
  · show (μ 0) 16 = _
    simp only [ur_] <;> omega
theorem iv_th (hI : iv_ t s) {i v : Int} (h0 : 0 ≤ i) (h1 : i < 96) (hv : ft_ s v) : iv_ t (ur_ s (137 + i) v) := by
  obtain ⟨hT, hP, hH, hW, hM, hD, hG, hL, hC⟩ := hI
  have hle : s 9 ≤ 24 := by
    rw [hD.1.2]
    exact cn_le _ 24
  have k0 : ∀ j, j < 137 → ur_ s (137 + i) v j = s j := fun j hj => ur_n (by omega)
  have k1 : ∀ j, 233 ≤ j → ur_ s (137 + i) v j = s j := fun j hj => ur_n (by omega)
  exact ⟨iv_T_k (fun j a b => k0 j (by omega)) hT, iv_P_k ⟨k0 0 (by omega), k0 1 (by omega)⟩ hP, iv_H_k (fun j a b => k0 j (by omega)) (fun k a b => by
      by_cases hk : k = i
      · subst hk
        rw [ur_y]
        exact Or.inr hv
      · exact Or.inl (ur_n (by omega))) hH, iv_W_k ⟨k0 0 (by omega), k0 1 (by omega)⟩ (fun j a b => k0 j (by omega)) (fun c a b => Or.inl (k0 _ (by omega))) hW, iv_M_k ⟨k0 0 (by omega), k0 1 (by omega)⟩ (fun j a b => k0 j (by omega)) (fun c a b => Or.inl (k0 _ (by omega))) hM, iv_D_k ⟨k0 0 (by omega), k0 1 (by omega)⟩ (k0 9 (by omega)) (fun j a b => k0 j (by omega)) (fun k a b => k1 _ (by omega)) hD, iv_G_k (k0 0 (by omega)) (k0 8 (by omega)) (fun j a b => k0 j (by omega)) (fun k a b => k1 _ (by omega)) hG, iv_L_k (k0 4 (by omega)) (k0 10 (by omega)) hL, iv_C_k (k0 3 (by omega)) (k0 4 (by omega)) (fun j a b => k0 j (by omega)) hC⟩
theorem iv_wk (hI : iv_ t s) {i v : Int} (h0 : 0 ≤ i) (h1 : i < 24) (hv : ft_ s v) (hd : s 0 = 2 → v ≠ -15 → ¬ (s (41 + v) = 0 ∧ s 1 ≤ v)) : iv_ t (ur_ s (113 + i) v) := by
  obtain ⟨hT, hP, hH, hW, hM, hD, hG, hL, hC⟩ := hI
  have k0 : ∀ j, j < 113 → ur_ s (113 + i) v j = s j := fun j hj => ur_n (by omega)
  have k1 : ∀ j, 137 ≤ j → ur_ s (113 + i) v j = s j := fun j hj => ur_n (by omega)
  exact ⟨iv_T_k (fun j a b => k0 j (by omega)) hT, iv_P_k ⟨k0 0 (by omega), k0 1 (by omega)⟩ hP, iv_H_k (fun j a b => k0 j (by omega)) (fun k a b => Or.inl (k1 _ (by omega))) hH, iv_W_k ⟨k0 0 (by omega), k0 1 (by omega)⟩ (fun j a b => k0 j (by omega)) (fun c a b => by
      by_cases hk : c = i
      · subst hk
        rw [ur_y]
        exact Or.inr ⟨hv, hd⟩
      · exact Or.inl (ur_n (by omega))) hW, iv_M_k ⟨k0 0 (by omega), k0 1 (by omega)⟩ (fun j a b => k0 j (by omega)) (fun c a b => Or.inl (k0 _ (by omega))) hM, iv_D_k ⟨k0 0 (by omega), k0 1 (by omega)⟩ (k0 9 (by omega)) (fun j a b => k0 j (by omega)) (fun k a b => k1 _ (by omega)) hD, iv_G_k (k0 0 (by omega)) (k0 8 (by omega)) (fun j a b => k0 j (by omega)) (fun k a b => k1 _ (by omega)) hG, iv_L_k (k0 4 (by omega)) (k0 10 (by omega)) hL, iv_C_k (k0 3 (by omega)) (k0 4 (by omega)) (fun j a b => k0 j (by omega)) hC⟩
theorem dm_not (hT : iv_T s) {a : Int} (h : ¬ dm_ s a) : s 0 = 2 → ¬ (s (41 + a) = 0 ∧ s 1 ≤ a) := fun h2 q => h ⟨h2, q.1, q.2⟩
theorem op_ties (h : hi_ t μ ν) {a b c : Int} (ha : rg_ a) (hb : rg_ b) (hc : rg_ c) : op_ t μ ν (f_X1_tieThread μ a b c) (f_X12_ties ν a b c) := by
  obtain ⟨hr, hI⟩ := id h
  have hr0 := hr
  obtain ⟨hT, hP, hH, hW, hM, hD, hG, hL, hC⟩ := id hI
  obtain ⟨r1, r2, r3, r4, r5, r6, r7, ⟨r8, r9⟩, ⟨r10, r11⟩, r12, r13, r14, r15, r16, r17, r18, r19⟩ := hr
  unfold f_X1_tieThread f_X12_ties
  rw [e_hasUrn hT r4 ha, bd_some, tr_0, e_isUrn hT ha, bd_some, tr_0]
  by_cases c1 : ur9_ (ν 1) a
  · rw [if_pos c1, if_pos c1, e_isSlot hb, bd_some, tr_0, e_in hb (by decide) (by decide), bd_some, tr_0]
    by_cases c2 : 0 ≤ b ∧ b < 4
    · rw [if_pos c2, if_pos (show 0 ≤ b ∧ b ≤ 3 by omega), e_hasUrn hT r4 hc, bd_some, tr_0, e_isUrn hT hc, bd_some, tr_0]
      by_cases c3 : ur9_ (ν 1) c
      · have a01 := c1.1
        have c01 := c3.1
        rw [if_pos c3, if_pos c3, e_toBeSwept hT hP r4 r12 r13 c1, bd_some, tr_0, e_isDoomed hT hP a01.1 a01.2, bd_some, tr_0]
        by_cases c4 : dm_ (ν 1) a
        · rw [if_pos c4, if_pos c4, e_refuse, e_refused, bp_some, bp_some]
          exact op_ref h ⟨by omega, by omega⟩
        · rw [if_neg c4, if_neg c4, e_toBeSwept hT hP r4 r12 r13 c3, bd_some, tr_0, e_isDoomed hT hP c01.1 c01.2, bd_some, tr_0]
          by_cases c5 : dm_ (ν 1) c
          · rw [if_pos c5, if_pos c5, e_refuse, e_refused, bp_some, bp_some]
            exact op_ref h ⟨by omega, by omega⟩
          · have ei : (137 + (4 * a)) + b = 137 + (a * 4 + b) := by omega
            have hv := ft_r (hH (a * 4 + b) (by omega) (by omega))
            have hf : ft_ (ν 1) c := Or.inr ⟨c01.1, c01.2, c3.2⟩
            have hr2 := hr_th hr0 (i := a * 4 + b) (v := c) (by omega) (by omega)
            have hI2 := iv_th hI (i := a * 4 + b) (v := c) (by omega) (by omega) hf
            have e0 : ur_ (ν 1) (137 + (a * 4 + b)) c 0 = ν 1 0 := ur_n (by omega)
            have e4 : (a * 4 + b) / 4 = a := by omega
            have e41 : ur_ (ν 1) (137 + (a * 4 + b)) c (41 + a) = ν 1 (41 + a) := ur_n (by omega)
            have q41 := (hT a a01.1 a01.2)
            have q4 := r4 a a01.1 a01.2
            rw [if_neg c5, if_neg c5, e_target r1 ha hb, bd_some, if_pos ⟨a01, c2⟩, wr_e (by omega) (by omega), rd_e a01.1 (by omega), e_at, bd_some, rd_e (by omega) (by omega), bd_some, wr_e (by omega) (by omega), rd_e (by omega) (by omega), ei]
            have en : st_ ν 1 (137 + (a * 4 + b)) c = um_ ν 1 (ur_ (ν 1) (137 + (a * 4 + b)) c) := rfl
            have em : (st_ μ 1 (a * 4 + b) c) 4 a = ν 1 (41 + a) := by
              rw [st_n (by decide), q4, if_neg (by have := c1.2; omega)]
            have er : (um_ ν 1 (ur_ (ν 1) (137 + (a * 4 + b)) c)) 1 = ur_ (ν 1) (137 + (a * 4 + b)) c := um_self _ _ _
            rw [em, en, er, e0]
            by_cases d1 : ν 1 0 = 1
            · rw [eq_y d1, rd_e (by omega) (by omega), er, e41]
              by_cases d2 : ν 1 (41 + a) = 2
              · rw [eq_y d2, eq_y d2]
                have hf2 : ft_ (ur_ (ν 1) (137 + (a * 4 + b)) c) c := ft_k (fun j x y => ur_n (by omega)) hf
                have hB1 : iv_B (ν 1) → iv_B (ag_ (ur_ (ν 1) (137 + (a * 4 + b)) c) c) := fun hB => by
                  rw [ag_th hG (by omega) (by omega) c01]
                  have f0 : ag_ (ν 1) c 0 = ν 1 0 := ag_o hG (Or.inr c01) (by omega) (by omega) (by omega)
                  refine th_B (by omega) (by omega) (Or.inr c01) (ag_H hH hG (Or.inr c01)) (fun _ => ?_) (fun _ _ _ => ?_) (fun _ q => absurd (f0.symm.trans q) (by omega)) (ag_B d1 hH hG hf hB)
                  · rw [e4, ag_o hG (Or.inr c01) (by omega) (by omega) (by omega)]
                    have := c1.2
                    omega
                  · rw [ag_col hG (Or.inr c01) c01.1 c01.2]
                    split
                    · decide
                    · next q => exact fun z => q ⟨rfl, z⟩
                obtain ⟨μ3, g1, g2, g3⟩ := c_makeGrey hr2 hI2.1 hf2 ⟨hI2.2.2.2.2.2.2.1.1.2, hI2.2.2.2.2.2.2.1.1.1⟩
                unfold f_X2_makeGreyInRound
                rw [nm_q, st_n (by decide), r12, eq_y d1, g1, bd_some, bd_some, e_greysIfWhite (Or.inr c01) (by rw [er]; exact hI2.1) (by rw [er]; have := cn_le (fun x => decide (ur_ (ν 1) (137 + (a * 4 + b)) c (41 + x) = 1)) 24; have := hI2.2.2.2.2.2.2.1.1; omega), bd_some, er, um_um, e_done, bp_some]
                exact op_done g2 (iv_mono (by omega) (ag_iv (by rw [e0]; exact d1) hI2 hf2)) (fun k hk => by rw [g3 k hk, st_n (by omega)]) hv.1 hv.2 hB1
              · rw [eq_n (by omega) (by decide) d2, eq_n (by omega) (by decide) d2, e_done, bp_some]
                exact op_done hr2 (iv_mono (by omega) hI2) (fun k hk => st_n (by omega)) hv.1 hv.2 (fun hB => th_B (by omega) (by omega) (Or.inr c01) hH (fun _ => by rw [e4]; have := c1.2; omega) (fun _ _ q => by rw [e4] at q; exact absurd q d2) (fun _ q => absurd q (by omega)) hB)
            · rw [eq_n (by have := hP.1; omega) (by decide) d1, e_done, bp_some]
              have hfin := op_done (ν := ν) hr2 (iv_mono (show t ≤ t + 1 by omega) hI2) (fun k hk => st_n (by omega)) hv.1 hv.2 (fun hB => th_B (by omega) (by omega) (Or.inr c01) hH (fun _ => by rw [e4]; have := c1.2; omega) (fun _ q => absurd q d1) (fun _ q => dm_not hT c5 q) hB)
              by_cases d2 : ν 1 (41 + a) = 2
              · rw [eq_y d2]
                unfold f_X2_makeGreyInRound
                rw [nm_q, st_n (by decide), r12, eq_n (by have := hP.1; omega) (by decide) d1, bd_some]
                exact hfin
              · rw [eq_n (by omega) (by decide) d2]
                exact hfin
      · rw [if_neg c3, if_neg c3]
        exact op_code h (Or.inl rfl)
    · rw [if_neg c2, if_neg (show ¬ (0 ≤ b ∧ b ≤ 3) by omega)]
      exact op_code h (Or.inl rfl)
  · rw [if_neg c1, if_neg c1]
    exact op_code h (Or.inl rfl)
end HA
