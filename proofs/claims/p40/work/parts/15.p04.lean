/-! what the hands do: threads taken, weak threads, names -/
section HB
variable {t : Int} {s : Int → Int} {μ ν : mu_T}
theorem op_unties (h : hi_ t μ ν) {a b : Int} (ha : rg_ a) (hb : rg_ b) : op_ t μ ν (f_X1_takeThread μ a b) (f_X12_unties ν a b) := by
  obtain ⟨hr, hI⟩ := id h
  have hr0 := hr
  obtain ⟨hT, hP, hH, hW, hM, hD, hG, hL, hC⟩ := id hI
  obtain ⟨r1, r2, r3, r4, r5, r6, r7, ⟨r8, r9⟩, ⟨r10, r11⟩, r12, r13, r14, r15, r16, r17, r18, r19⟩ := hr
  unfold f_X1_takeThread f_X12_unties
  rw [e_hasUrn hT r4 ha, bd_some, tr_0, e_isUrn hT ha, bd_some, tr_0]
  by_cases c1 : ur9_ (ν 1) a
  · rw [if_pos c1, if_pos c1, e_isSlot hb, bd_some, tr_0, e_in hb (by decide) (by decide), bd_some, tr_0]
    by_cases c2 : 0 ≤ b ∧ b < 4
    · have a01 := c1.1
      have ei : (137 + (4 * a)) + b = 137 + (a * 4 + b) := by omega
      have hv := ft_r (hH (a * 4 + b) (by omega) (by omega))
      rw [if_pos c2, if_pos (show 0 ≤ b ∧ b ≤ 3 by omega), e_target r1 ha hb, bd_some, if_pos ⟨a01, c2⟩, e_at, bd_some, rd_e (by omega) (by omega), bd_some, ei]
      by_cases d : ν 1 (137 + (a * 4 + b)) = -15
      · rw [eq_y d, eq_y d, e_refuse, e_refused, bp_some, bp_some]
        exact op_ref h ⟨by omega, by omega⟩
      · have hr2 := hr_th hr0 (i := a * 4 + b) (v := -15) (by omega) (by omega)
        have hI2 := iv_th hI (i := a * 4 + b) (v := -15) (by omega) (by omega) (Or.inl rfl)
        rw [eq_n hv.2 (by decide) d, eq_n hv.2 (by decide) d, wr_e (by omega) (by omega), wr_e (by omega) (by omega), e_done, bp_some]
        exact op_done hr2 (iv_mono (by omega) hI2) (fun k hk => st_n (by omega)) hv.1 hv.2 (fun hB => th_B (by omega) (by omega) (Or.inl rfl) hH (fun q => absurd rfl q) (fun q => absurd rfl q) (fun q => absurd rfl q) hB)
    · rw [if_neg c2, if_neg (show ¬ (0 ≤ b ∧ b ≤ 3) by omega)]
      exact op_code h (Or.inl rfl)
  · rw [if_neg c1, if_neg c1]
    exact op_code h (Or.inl rfl)
theorem op_weakens (h : hi_ t μ ν) {a c : Int} (ha : rg_ a) (hc : rg_ c) : op_ t μ ν (f_X1_tieWeak μ a c) (f_X12_weakens ν a c) := by
  obtain ⟨hr, hI⟩ := id h
  have hr0 := hr
  obtain ⟨hT, hP, hH, hW, hM, hD, hG, hL, hC⟩ := id hI
  obtain ⟨r1, r2, r3, r4, r5, r6, r7, ⟨r8, r9⟩, ⟨r10, r11⟩, r12, r13, r14, r15, r16, r17, r18, r19⟩ := hr
  unfold f_X1_tieWeak f_X12_weakens
  rw [e_hasUrn hT r4 ha, bd_some, tr_0, e_isUrn hT ha, bd_some, tr_0]
  by_cases c1 : ur9_ (ν 1) a
  · rw [if_pos c1, if_pos c1, e_hasUrn hT r4 hc, bd_some, tr_0, e_isUrn hT hc, bd_some, tr_0]
    by_cases c3 : ur9_ (ν 1) c
    · have a01 := c1.1
      have c01 := c3.1
      rw [if_pos c3, if_pos c3, e_toBeSwept hT hP r4 r12 r13 c1, bd_some, tr_0, e_isDoomed hT hP a01.1 a01.2, bd_some, tr_0]
      by_cases c4 : dm_ (ν 1) a
      · rw [if_pos c4, if_pos c4, e_refuse, e_refused, bp_some, bp_some]
        exact op_ref h ⟨by omega, by omega⟩
      · rw [if_neg c4, if_neg c4, e_toBeSwept hT hP r4 r12 r13 c3, bd_some, tr_0, e_isDoomed hT hP c01.1 c01.2, bd_some, tr_0]
        by_cases c5 : dm_ (ν 1) c
        · rw [if_pos c5, if_pos c5, e_refuse, e_refused, bp_some, bp_some]
          exact op_ref h ⟨by omega, by omega⟩
        · have hv := ft_r (hW a a01.1 a01.2).1
          have hr2 := hr_wk hr0 (i := a) (v := c) a01.1 a01.2
          have hI2 := iv_wk hI (i := a) (v := c) a01.1 a01.2 (Or.inr ⟨c01.1, c01.2, c3.2⟩) (fun z _ => dm_not hT c5 z)
          rw [if_neg c5, if_neg c5, rd_e a01.1 (by omega), wr_e a01.1 (by omega), rd_e (by omega) (by omega), wr_e (by omega) (by omega), e_done, bp_some, r2 a a01.1 a01.2]
          exact op_done hr2 (iv_mono (by omega) hI2) (fun k hk => st_n (by omega)) hv.1 hv.2 (fun hB => ur_B (by omega) hH hB)
    · rw [if_neg c3, if_neg c3]
      exact op_code h (Or.inl rfl)
  · rw [if_neg c1, if_neg c1]
    exact op_code h (Or.inl rfl)
/-- the reference's unweak, without what all acts do before and behind -/
def w_unweak (ν : mu_T) (a : Int) : Option (Int × mu_T) := bd_ (f_X12_isUrn ν a) (fun v => eq_ v 0 (some ((-11), ν)) (rd_ ν 1 293 (113 + a) (fun v2 => wr_ ν 1 293 (113 + a) (-15) (fun ν1 => eq_ v2 (-15) (f_X12_refused ν1 2 4) (f_X12_done ν1 v2)))))
theorem op_unweak (h : hi_ t μ ν) {a : Int} (ha : rg_ a) : op_ t μ ν (f_X1_takeWeak μ a) (w_unweak ν a) := by
  obtain ⟨hr, hI⟩ := id h
  have hr0 := hr
  obtain ⟨hT, hP, hH, hW, hM, hD, hG, hL, hC⟩ := id hI
  obtain ⟨r1, r2, r3, r4, r5, r6, r7, ⟨r8, r9⟩, ⟨r10, r11⟩, r12, r13, r14, r15, r16, r17, r18, r19⟩ := hr
  unfold f_X1_takeWeak w_unweak
  rw [e_hasUrn hT r4 ha, bd_some, tr_0, e_isUrn hT ha, bd_some, tr_0]
  by_cases c1 : ur9_ (ν 1) a
  · have a01 := c1.1
    have hv := ft_r (hW a a01.1 a01.2).1
    rw [if_pos c1, if_pos c1, rd_e a01.1 (by omega), rd_e (by omega) (by omega), wr_e (μ := ν) (by omega) (by omega), r2 a a01.1 a01.2]
    by_cases d : ν 1 (113 + a) = -15
    · have e : st_ ν 1 (113 + a) (-15) = ν := by
        show um_ ν 1 (ur_ (ν 1) (113 + a) (-15)) = ν
        have e2 : ur_ (ν 1) (113 + a) (-15) = ν 1 := by
          funext j
          unfold ur_
          split
          · next q => rw [q, d]
          · rfl
        rw [e2, um_id]
      rw [eq_y d, eq_y d, e, e_refuse, e_refused, bp_some]
      exact op_ref h ⟨by omega, by omega⟩
    · have hr2 := hr_wk hr0 (i := a) (v := -15) a01.1 a01.2
      have hI2 := iv_wk hI (i := a) (v := -15) a01.1 a01.2 (Or.inl rfl) (fun _ z => absurd rfl z)
      rw [eq_n hv.2 (by decide) d, eq_n hv.2 (by decide) d, wr_e a01.1 (by omega), e_done]
      exact op_done hr2 (iv_mono (by omega) hI2) (fun k hk => st_n (by omega)) hv.1 hv.2 (fun hB => ur_B (by omega) hH hB)
  · rw [if_neg c1, if_neg c1]
    exact op_code h (Or.inl rfl)
theorem iv_nm (hI : iv_ t s) {i v : Int} (h0 : 0 ≤ i) (h1 : i < 6) (hv : ft_ s v) (hd : v ≠ -15 → sf_ s v) : iv_ t (ur_ s (11 + i) v) := by
  obtain ⟨hT, hP, hH, hW, hM, hD, hG, hL, hC⟩ := hI
  have k0 : ∀ j, j < 11 → ur_ s (11 + i) v j = s j := fun j hj => ur_n (by omega)
  have k1 : ∀ j, 17 ≤ j → ur_ s (11 + i) v j = s j := fun j hj => ur_n (by omega)
  exact ⟨iv_T_k (fun j a b => k1 j a) hT, iv_P_k ⟨k0 0 (by omega), k0 1 (by omega)⟩ hP, iv_H_k (fun j a b => k1 j a) (fun k a b => Or.inl (k1 _ (by omega))) hH, iv_W_k ⟨k0 0 (by omega), k0 1 (by omega)⟩ (fun j a b => k1 j a) (fun c a b => Or.inl (k1 _ (by omega))) hW, iv_M_k ⟨k0 0 (by omega), k0 1 (by omega)⟩ (fun j a b => k1 j a) (fun c a b => by
      by_cases hk : c = i
      · subst hk
        rw [ur_y]
        exact Or.inr ⟨hv, hd⟩
      · exact Or.inl (ur_n (by omega))) hM, iv_D_k ⟨k0 0 (by omega), k0 1 (by omega)⟩ (k0 9 (by omega)) (fun j a b => k1 j (by omega)) (fun k a b => k1 _ (by omega)) hD, iv_G_k (k0 0 (by omega)) (k0 8 (by omega)) (fun j a b => k1 j (by omega)) (fun k a b => k1 _ (by omega)) hG, iv_L_k (k0 4 (by omega)) (k0 10 (by omega)) hL, iv_C_k (k0 3 (by omega)) (k0 4 (by omega)) (fun j a b => k1 j a) hC⟩
theorem ag_comm (hG : iv_G s) {c i v : Int} (h0 : 0 ≤ c) (h1 : c < 24) (hi : 9 ≤ i ∧ i < 17) : ag_ (ur_ s i v) c = ur_ (ag_ s c) i v := by
  have e1 : ur_ s i v (41 + c) = s (41 + c) := ur_n (by omega)
  have e8 : ur_ s i v 8 = s 8 := ur_n (by omega)
  by_cases h : c ≠ -15 ∧ s (41 + c) = 0
  · have h24 := ag_lt hG h0 h1 h.2
    have h8 := hG.1.1
    rw [ag_w h, ag_w ⟨h.1, e1.trans h.2⟩, e8]
    funext j
    simp only [ur_]
    repeat' split
    all_goals first | rfl | omega
  · rw [ag_b h, ag_b (fun q => h ⟨q.1, e1.symm.trans q.2⟩)]
theorem op_names (h : hi_ t μ ν) {a c : Int} (ha : rg_ a) (hc : rg_ c) : op_ t μ ν (f_X1_giveName μ a c) (f_X12_names ν a c) := by
  obtain ⟨hr, hI⟩ := id h
  have hr0 := hr
  obtain ⟨hT, hP, hH, hW, hM, hD, hG, hL, hC⟩ := id hI
  obtain ⟨r1, r2, r3, r4, r5, r6, r7, ⟨r8, r9⟩, ⟨r10, r11⟩, r12, r13, r14, r15, r16, r17, r18, r19⟩ := hr
  unfold f_X1_giveName f_X12_names
  rw [e_isName ha, bd_some, tr_0, e_in ha (by decide) (by decide), bd_some, tr_0]
  by_cases c1 : 0 ≤ a ∧ a < 6
  · rw [if_pos c1, if_pos (show 0 ≤ a ∧ a ≤ 5 by omega), e_hasUrn hT r4 hc, bd_some, tr_0, e_isUrn hT hc, bd_some, tr_0]
    by_cases c3 : ur9_ (ν 1) c
    · have c01 := c3.1
      rw [if_pos c3, if_pos c3, e_toBeSwept hT hP r4 r12 r13 c3, bd_some, tr_0, e_isDoomed hT hP c01.1 c01.2, bd_some, tr_0]
      by_cases c5 : dm_ (ν 1) c
      · rw [if_pos c5, if_pos c5, e_refuse, e_refused, bp_some, bp_some]
        exact op_ref h ⟨by omega, by omega⟩
      · have hv := ft_r (hM a c1.1 c1.2).1
        have hf : ft_ (ν 1) c := Or.inr ⟨c01.1, c01.2, c3.2⟩
        have hr2 := hr_nm hr0 (i := a) (v := c) c1.1 c1.2
        have e0 : ur_ (ν 1) (11 + a) c 0 = ν 1 0 := ur_n (by omega)
        have er : (um_ ν 1 (ur_ (ν 1) (11 + a) c)) 1 = ur_ (ν 1) (11 + a) c := um_self _ _ _
        rw [if_neg c5, if_neg c5, rd_e c1.1 (by omega), wr_e c1.1 (by omega), rd_e (by omega) (by omega), wr_e (by omega) (by omega), rd_e (by omega) (by omega), r6 a c1.1 c1.2]
        have en : st_ ν 1 (11 + a) c = um_ ν 1 (ur_ (ν 1) (11 + a) c) := rfl
        rw [en, er, e0]
        unfold f_X2_makeGreyInRound
        rw [nm_q, st_n (by decide), r12]
        by_cases d1 : ν 1 0 = 1
        · have hf2 : ft_ (ur_ (ν 1) (11 + a) c) c := ft_k (fun j x y => ur_n (by omega)) hf
          have hT2 : iv_T (ur_ (ν 1) (11 + a) c) := iv_T_k (fun j x y => ur_n (by omega)) hT
          have hG2 : iv_G (ur_ (ν 1) (11 + a) c) := iv_G_k e0 (ur_n (by omega)) (fun j x y => ur_n (by omega)) (fun k x y => ur_n (by omega)) hG
          obtain ⟨μ3, g1, g2, g3⟩ := c_makeGrey hr2 hT2 hf2 ⟨hG2.1.2, hG2.1.1⟩
          have hag : iv_ t (ag_ (ur_ (ν 1) (11 + a) c) c) := by
            rw [ag_comm hG c01.1 c01.2 (by omega)]
            refine iv_nm (ag_iv d1 hI hf) c1.1 c1.2 (ag_ft hG (Or.inr c01) hf) (fun _ => ?_)
            have e0b : ag_ (ν 1) c 0 = ν 1 0 := ag_o hG (Or.inr c01) (by omega) (by omega) (by omega)
            refine ⟨fun _ => ?_, fun z => by omega⟩
            rw [ag_col hG (Or.inr c01) c01.1 c01.2]
            split
            · decide
            · next q => exact fun z => q ⟨rfl, z⟩
          rw [eq_y d1, eq_y d1, g1, bd_some, bd_some, e_greysIfWhite (Or.inr c01) (by rw [er]; exact hT2) (by rw [er]; have := cn_le (fun x => decide (ur_ (ν 1) (11 + a) c (41 + x) = 1)) 24; have := hG2.1; omega), bd_some, er, um_um, e_done, bp_some]
          exact op_done g2 (iv_mono (by omega) hag) (fun k hk => by rw [g3 k hk, st_n (by omega)]) hv.1 hv.2 (fun hB => by
            rw [ag_comm hG c01.1 c01.2 (by omega)]
            exact ur_B (by omega) (ag_H hH hG (Or.inr c01)) (ag_B d1 hH hG hf hB))
        · have hI2 := iv_nm hI (i := a) (v := c) c1.1 c1.2 hf (fun _ => ⟨fun z => absurd z d1, fun z => dm_not hT c5 z⟩)
          rw [eq_n (by have := hP.1; omega) (by decide) d1, eq_n (by have := hP.1; omega) (by decide) d1, bd_some, e_done, bp_some]
          exact op_done hr2 (iv_mono (by omega) hI2) (fun k hk => st_n (by omega)) hv.1 hv.2 (fun hB => ur_B (by omega) hH hB)
    · rw [if_neg c3, if_neg c3]
      exact op_code h (Or.inl rfl)
  · rw [if_neg c1, if_neg (show ¬ (0 ≤ a ∧ a ≤ 5) by omega)]
    exact op_code h (Or.inl rfl)
theorem op_drops (h : hi_ t μ ν) {a : Int} (ha : rg_ a) : op_ t μ ν (f_X1_takeName μ a) (f_X12_drops ν a) := by
  obtain ⟨hr, hI⟩ := id h
  have hr0 := hr
  obtain ⟨hT, hP, hH, hW, hM, hD, hG, hL, hC⟩ := id hI
  obtain ⟨r1, r2, r3, r4, r5, r6, r7, ⟨r8, r9⟩, ⟨r10, r11⟩, r12, r13, r14, r15, r16, r17, r18, r19⟩ := hr
  unfold f_X1_takeName f_X12_drops
  rw [e_isName ha, bd_some, tr_0, e_in ha (by decide) (by decide), bd_some, tr_0]
  by_cases c1 : 0 ≤ a ∧ a < 6
  · have hv := ft_r (hM a c1.1 c1.2).1
    rw [if_pos c1, if_pos (show 0 ≤ a ∧ a ≤ 5 by omega), rd_e c1.1 (by omega), rd_e (by omega) (by omega), r6 a c1.1 c1.2]
    by_cases d : ν 1 (11 + a) = -15
    · rw [eq_y d, eq_y d, e_refuse, e_refused, bp_some, bp_some]
      exact op_ref h ⟨by omega, by omega⟩
    · have hr2 := hr_nm hr0 (i := a) (v := -15) c1.1 c1.2
      have hI2 := iv_nm hI (i := a) (v := -15) c1.1 c1.2 (Or.inl rfl) (fun z => absurd rfl z)
      rw [eq_n hv.2 (by decide) d, eq_n hv.2 (by decide) d, wr_e c1.1 (by omega), wr_e (by omega) (by omega), e_done, bp_some]
      exact op_done hr2 (iv_mono (by omega) hI2) (fun k hk => st_n (by omega)) hv.1 hv.2 (fun hB => ur_B (by omega) hH hB)
  · rw [if_neg c1, if_neg (show ¬ (0 ≤ a ∧ a ≤ 5) by omega)]
    exact op_code h (Or.inl rfl)
end HB
