/-! builders of texts -/
theorem i2b_k : ∀ n : Nat, n < 128 → i2b_ (n : Int) = n := by decide +kernel
theorem i2c_k : ∀ n : Nat, n < 128 → i2c_ (n : Int) = n := by decide +kernel
theorem an_k : ∀ n : Nat, n < 128 → an_ (n : Int) 255 = n := by decide +kernel
theorem i2b_n {c : Int} (h : 0 ≤ c ∧ c < 128) : i2b_ c = c := by
  have q := i2b_k c.toNat (by omega)
  rw [Int.toNat_of_nonneg h.1] at q
  exact q
theorem i2c_n {c : Int} (h : 0 ≤ c ∧ c < 128) : i2c_ c = c := by
  have q := i2c_k c.toNat (by omega)
  rw [Int.toNat_of_nonneg h.1] at q
  exact q
theorem an_255 {c : Int} (h : 0 ≤ c ∧ c < 128) : an_ c 255 = c := by
  have q := an_k c.toNat (by omega)
  rw [Int.toNat_of_nonneg h.1] at q
  exact q
theorem mn_y {α : Type} {a b : Int} {f : Int → Option α} (ha : rg_ a) (hb : rg_ b) (h : ¬ b < a) : mn_ a b f = f a := by
  unfold mn_
  rw [if_pos ⟨ha, hb⟩, if_neg h]
theorem rb_e {α : Type} {μ : mu_T} {q : Nat} {i : Int} {f : Int → Option α} (h : 0 ≤ i ∧ i < bl_ μ q) (h2 : bl_ μ q < 2147483648) : rb_ μ q i f = f (μ q i) := if_pos ⟨h, h2⟩
section SB
variable {μ ν : mu_T}
/-- a builder of a text of len characters -/
def sb_ (μ : mu_T) (p b : Nat) (len : Int) : Prop := μ p 1 = 0 ∧ μ p 3 = len ∧ (0 ≤ len ∧ len ≤ bl_ μ b) ∧ (bl_ μ b = 16 ∨ bl_ μ b = 34 ∨ bl_ μ b = 70) ∧ ∀ k, 0 ≤ k → k < bl_ μ b → -128 ≤ μ b k ∧ μ b k ≤ 127
theorem e_en141 {len a : Int} (h : sb_ μ 141 142 len) (h1 : len ≤ a) (h2 : a ≤ len + 2) (h3 : a ≤ 70) : ∃ μ', f_J5_ensureCapacityInternal_d00df_o141g μ a = some μ' ∧ (∀ q, q ≠ 142 → μ' q = μ q) ∧ sb_ μ' 141 142 len ∧ a ≤ bl_ μ' 142 ∧ ∀ k, 0 ≤ k → k < len → μ' 142 k = μ 142 k := by
  obtain ⟨s1, s2, s3, s4, s5⟩ := id h
  have sr0 : sr_ (bl_ μ 142) 0 = bl_ μ 142 := by
    rcases s4 with q | q | q <;> rw [q] <;> decide +kernel
  unfold f_J5_ensureCapacityInternal_d00df_o141g
  simp only [nm_q]
  rw [s1, sr0]
  by_cases hc : bl_ μ 142 < a
  · have nc : f_J5_newCapacity_0f7a4_o141 μ a = some (2 * bl_ μ 142 + 2) := by
      have sl2 : sl_ 2 0 = 2 := by decide +kernel
      unfold f_J5_newCapacity_0f7a4_o141
      simp only [nm_q]
      rw [s1, sl2]
      rcases s4 with q | q | q
      · rw [q]
        rcases (show a = 17 ∨ a = 18 by omega) with rfl | rfl
        · rfl
        · rfl
      · rw [q]
        rcases (show a = 35 ∨ a = 36 by omega) with rfl | rfl
        · rfl
        · rfl
      · omega
    have sl0 : sl_ (2 * bl_ μ 142 + 2) 0 = 2 * bl_ μ 142 + 2 := by
      rcases s4 with q | q | q <;> rw [q] <;> decide +kernel
    rw [lt_y (by decide) (by omega) (by omega), nc, bd_some, sl0]
    have hg : gw_ μ 142 (2 * bl_ μ 142 + 2) (fun μ32 => some μ32) = some (um_ μ 142 (gx_ μ 142 (2 * bl_ μ 142 + 2))) := by
      unfold gw_
      rw [if_pos]
      refine ⟨⟨by omega, by omega⟩, ?_⟩
      rw [List.all_eq_true]
      intro i hi
      have hi2 := List.mem_range.mp hi
      have w := s5 (i : Int) (by omega) (by omega)
      rw [Bool.and_eq_true]
      exact ⟨decide_eq_true w.1, decide_eq_true w.2⟩
    have eb : bl_ (um_ μ 142 (gx_ μ 142 (2 * bl_ μ 142 + 2))) 142 = 2 * bl_ μ 142 + 2 := by
      unfold bl_
      rw [um_self]
      show ((2 * (((μ 142 (-1)).toNat : Nat) : Int) + 2).toNat : Int) = _
      omega
    have ex : ∀ k, 0 ≤ k → gx_ μ 142 (2 * bl_ μ 142 + 2) k = if k < bl_ μ 142 then μ 142 k else 0 := fun k k0 => by
      unfold gx_
      rw [if_neg (by omega)]
      by_cases hk : k < bl_ μ 142
      · rw [if_pos hk, if_pos ⟨k0, hk⟩]
      · rw [if_neg hk, if_neg (fun q => hk q.2)]
    refine ⟨_, hg, fun q hq => um_ne hq, ⟨?_, ?_, ?_, ?_, ?_⟩, ?_, fun k k0 k1 => ?_⟩
    · rw [um_ne (by decide)]
      exact s1
    · rw [um_ne (by decide)]
      exact s2
    · rw [eb]
      omega
    · rw [eb]
      omega
    · intro k k0 k1
      rw [um_self, ex k k0]
      split
      · exact s5 k k0 (by assumption)
      · decide
    · rw [eb]
      omega
    · rw [um_self, ex k k0, if_pos (by omega)]
  · rw [lt_n (by decide) (by omega) (by omega)]
    exact ⟨μ, rfl, fun _ _ => rfl, h, by omega, fun _ _ _ => rfl⟩
theorem e_ap141 {len c : Int} (h : sb_ μ 141 142 len) (h3 : len < 70) (hc : 0 ≤ c ∧ c < 128) : ∃ μ', f_J5_append_3fe6f_o141g μ c = some μ' ∧ (∀ q, q ≠ 141 → q ≠ 142 → μ' q = μ q) ∧ sb_ μ' 141 142 (len + 1) ∧ μ' 142 len = c ∧ ∀ k, 0 ≤ k → k < len → μ' 142 k = μ 142 k := by
  have s2 := h.2.1
  have s3 := h.2.2.1
  obtain ⟨μ7, a1, a2, a3, a4, a5⟩ := e_en141 h (a := len + 1) (by omega) (by omega) (by omega)
  obtain ⟨t1, t2, t3, t4, t5⟩ := a3
  have eL : f_J5_isLatin1_aae02_o141 μ7 = some 1 := by
    unfold f_J5_isLatin1_aae02_o141
    rw [eq_n (by decide) (by decide) (by decide), nm_q, t1, eq_y rfl]
  have eE : f_J1_canEncode_fc78d μ7 c = some 1 := by
    unfold f_J1_canEncode_fc78d
    rw [lt_n (by decide) (by omega) (by omega)]
  have eb : ∀ w : Int, bl_ (st_ μ7 141 3 w) 142 = bl_ μ7 142 := fun w => by
    unfold bl_
    rw [st_n (by decide)]
  have hi : i2b_ c = c := i2b_n hc
  refine ⟨st_ (st_ μ7 141 3 (len + 1)) 142 len c, ?_, fun q q0 q1 => by rw [st_n q1, st_n q0, a2 q q1], ?_, by rw [st_s, if_pos rfl], fun k k0 k1 => ?_⟩
  · unfold f_J5_append_3fe6f_o141g
    rw [nm_q, s2, a1, bd_some, eL, bd_some]
    simp only [jn_e]
    rw [eq_n (by decide) (by decide) (by decide), eE, bd_some, eq_n (by decide) (by decide) (by decide), nm_q, t2, wf_e]
    unfold wb_
    rw [if_pos (by rw [eb]; omega), hi, hi]
  · have ebl : bl_ (st_ (st_ μ7 141 3 (len + 1)) 142 len c) 142 = bl_ μ7 142 := by
      rw [← eb (len + 1)]
      unfold bl_
      rw [st_s, if_neg (by omega)]
    refine ⟨?_, ?_, ?_, ?_, fun k k0 k1 => ?_⟩
    · rw [st_n (by decide), st_s, if_neg (by decide)]
      exact t1
    · rw [st_n (by decide), st_s, if_pos rfl]
    · rw [ebl]
      omega
    · rw [ebl]
      exact t4
    · rw [ebl] at k1
      rw [st_s]
      by_cases hk : k = len
      · rw [if_pos hk]
        omega
      · rw [if_neg hk, st_n (by decide)]
        exact t5 k k0 k1
  · rw [st_s, if_neg (by omega), st_n (by decide)]
    exact a5 k k0 k1
theorem e_sl141 {len : Int} (h : sb_ μ 141 142 len) : ∃ μ', f_J4_setLength_d00df_o141 μ 0 = some μ' ∧ (∀ q, q ≠ 141 → μ' q = μ q) ∧ sb_ μ' 141 142 0 := by
  obtain ⟨s1, s2, s3, s4, s5⟩ := id h
  have sr0 : sr_ (bl_ μ 142) 0 = bl_ μ 142 := by
    rcases s4 with q | q | q <;> rw [q] <;> decide +kernel
  have hk : ∀ κ : mu_T, (∀ q, q ≠ 141 → κ q = μ q) → κ 141 1 = 0 → κ 141 3 = 0 → sb_ κ 141 142 0 := fun κ k0 k1 k2 => by
    have eb : bl_ κ 142 = bl_ μ 142 := by
      unfold bl_
      rw [k0 142 (by decide)]
    refine ⟨k1, k2, by omega, by rw [eb]; exact s4, fun k a b => ?_⟩
    rw [k0 142 (by decide)]
    exact s5 k a (by omega)
  unfold f_J4_setLength_d00df_o141 f_J5_setLength_d00df_o141 f_J5_ensureCapacityInternal_d00df_o141
  simp only [nm_q]
  rw [lt_n (by decide) (by decide) (by decide), s1, sr0, lt_n (by decide) (by omega) (by omega), bd_some, s2, lt_n (by omega) (by decide) (by omega)]
  by_cases h0 : 0 < len
  · rw [lt_y (by decide) (by omega) h0, wz_e (Or.inr rfl), wf_e, bd_some]
    refine ⟨_, rfl, fun q hq => by rw [st_n hq, st_n hq], hk _ (fun q hq => by rw [st_n hq, st_n hq]) ?_ ?_⟩
    · rw [st_s, if_neg (by decide), st_s, if_neg (by decide)]
      exact s1
    · rw [st_s, if_pos rfl]
  · rw [lt_n (by decide) (by omega) h0, wf_e, bd_some]
    refine ⟨_, rfl, fun q hq => st_n hq, hk _ (fun q hq => st_n hq) ?_ ?_⟩
    · rw [st_s, if_neg (by decide)]
      exact s1
    · rw [st_s, if_pos rfl]
theorem e_ca141 {len i : Int} (h : sb_ μ 141 142 len) (hi : 0 ≤ i ∧ i < len) (hc : 0 ≤ μ 142 i ∧ μ 142 i < 128) : f_J4_charAt_5068e_o141 μ i = some (μ 142 i) := by
  obtain ⟨s1, s2, s3, s4, s5⟩ := id h
  have sr0 : sr_ (bl_ μ 142) 0 = bl_ μ 142 := by
    rcases s4 with q | q | q <;> rw [q] <;> decide +kernel
  have e1 : f_J0_checkIndex_df160 μ i len = some () := by
    unfold f_J0_checkIndex_df160 f_J3_checkIndex_8e157
    rw [lt_n (by omega) (by decide) (by omega), lt_y (by omega) (by omega) hi.2, bd_some]
  have e2 : f_J5_charAt_5068e_o141 μ i = some (μ 142 i) := by
    unfold f_J5_charAt_5068e_o141
    simp only [nm_q]
    rw [s1, s2, sr0, mn_y (by omega) (by omega) (by omega), e1, bd_some, eq_y rfl, rb_e (by omega) (by omega), an_255 hc, i2c_n hc]
    unfold rc_
    rw [if_pos (by omega)]
  unfold f_J4_charAt_5068e_o141
  rw [e2, bd_some]
  unfold rc_
  rw [if_pos (by omega)]
theorem e_ln141 {len : Int} (h : sb_ μ 141 142 len) : f_J4_length_8abf5_o141 μ = some len := by
  unfold f_J4_length_8abf5_o141 f_J5_length_8abf5_o141
  rw [nm_q, bd_some, h.2.1]
theorem tx_sb (h : tx_ μ ν) : sb_ μ 141 142 (ν 0 10) := ⟨h.1, h.2.1, ⟨h.2.2.1.1, h.2.2.1.2.2⟩, h.2.2.2.1, h.2.2.2.2.2⟩
theorem ln_sb (h : ln_ μ ν) : sb_ μ 149 150 (ν 0 11) := ⟨h.1, h.2.1, ⟨h.2.2.1.1, h.2.2.1.2.2⟩, h.2.2.2.1, h.2.2.2.2.2⟩
theorem tx_of (h : sb_ μ 141 142 (ν 0 10)) (h60 : ν 0 10 ≤ 60) (hc : ∀ k, 0 ≤ k → k < ν 0 10 → μ 142 k = ν 5 k ∧ 32 ≤ ν 5 k ∧ ν 5 k ≤ 126) : tx_ μ ν := ⟨h.1, h.2.1, ⟨h.2.2.1.1, h60, h.2.2.1.2⟩, h.2.2.2.1, hc, h.2.2.2.2⟩
theorem ln_of (h : sb_ μ 149 150 (ν 0 11)) (h60 : ν 0 11 ≤ 60) (hc : ∀ k, 0 ≤ k → k < ν 0 11 → μ 150 k = ν 7 k ∧ 32 ≤ ν 7 k ∧ ν 7 k ≤ 126) : ln_ μ ν := ⟨h.1, h.2.1, ⟨h.2.2.1.1, h60, h.2.2.1.2⟩, h.2.2.2.1, hc, h.2.2.2.2⟩
/-- what texts and lines leave alone -/
theorem RR_tl {t : Nat} {μ1 ν1 : mu_T} (hR : RR_ t μ ν) (hμ : ∀ q, q < 139 → q ≠ 137 → μ1 q = μ q) (hν : ∀ q, q ≠ 0 → q ≠ 5 → q ≠ 7 → q ≠ 8 → q ≠ 6 → ν1 q = ν q) (h0 : ∀ j, j ≠ 10 → j ≠ 11 → j < 14 → ν1 0 j = ν 0 j) (ht : tx_ μ1 ν1) (hl : ln_ μ1 ν1) : RR_ (t + 1) μ1 ν1 := by
  obtain ⟨h1, h2, h3, h4, h5, h6⟩ := RR_skip t μ ν hR
  have e1 := hν 1 (by decide) (by decide) (by decide) (by decide) (by decide)
  exact ⟨⟨hr_x (fun j hj => hμ j (by omega) (by omega)) (by rw [e1]; exact h1.1), by rw [e1]; exact h1.2⟩, sd_k (Int.le_refl _) h2 (fun q a b => hμ q (by omega) (by omega)) (by rw [hμ 138 (by decide) (by decide)]) (h0 5 (by decide) (by decide) (by decide)) (hν 3 (by decide) (by decide) (by decide) (by decide) (by decide)), hs_k (Int.le_refl _) h3 (fun q a b => hμ q (by omega) (by omega)) (by rw [hμ 138 (by decide) (by decide)]) (by rw [hμ 138 (by decide) (by decide)]) (h0 4 (by decide) (by decide) (by decide)) (hν 4 (by decide) (by decide) (by decide) (by decide) (by decide)), rs_k (hμ 133 (by decide) (by decide)) (h0 12 (by decide) (by decide) (by decide)) (h0 13 (by decide) (by decide) (by decide)) h4, ht, hl⟩
theorem p_append : pf_append RR_ := fun t μ ν a _ hR ha => by
  have hS := RR_skip t μ ν hR
  have htx := hS.2.2.2.2.1
  have hln := hS.2.2.2.2.2
  have hsb := tx_sb htx
  obtain ⟨x1, x2, x3, x4, x5, x6⟩ := id htx
  unfold f_X11_appendg f_X6_addSigng f_X12_append
  rw [e_in ha (by decide) (by decide), bd_some, tr_0, lt_if ha (by decide), lt_if (by decide) ha]
  by_cases h1 : a < 32
  · rw [if_pos h1, if_neg (by omega), bp_some]
    exact ⟨_, _, _, rfl, rfl, hS, rfl, rfl, rfl⟩
  · rw [if_neg h1]
    by_cases h2 : 126 < a
    · rw [if_pos h2, if_neg (by omega), bp_some]
      exact ⟨_, _, _, rfl, rfl, hS, rfl, rfl, rfl⟩
    · rw [if_neg h2, if_pos (by omega), e_ln141 hsb, bd_some, nm_q (ν 0 10)]
      by_cases h6 : ν 0 10 = 60
      · rw [lt_n (by omega) (by decide) (by omega), eq_y h6, bp_some]
        exact ⟨_, _, _, rfl, rfl, hS, rfl, rfl, rfl⟩
      · obtain ⟨μ', a1, a2, a3, a4, a5⟩ := e_ap141 hsb (by omega) (c := a) (by omega)
        rw [lt_y (by omega) (by decide) (by omega), eq_n (by omega) (by decide) h6, i2c_n (by omega), nm_q (ν 0 10), wr_e (by omega) (by omega)]
        have e0 : (st_ ν 5 (ν 0 10) a) 0 10 = ν 0 10 := by rw [st_n (by decide)]
        have e1 : (st_ (st_ ν 5 (ν 0 10) a) 0 10 (ν 0 10 + 1)) 0 10 = ν 0 10 + 1 := by rw [st_s, if_pos rfl]
        refine ⟨ν 0 10 + 1, μ', st_ (st_ ν 5 (ν 0 10) a) 0 10 (ν 0 10 + 1), ?_, ?_, ?_, by rw [st_n (by decide), st_n (by decide)], by rw [st_n (by decide), st_n (by decide)], by rw [st_s, if_neg (by decide), st_n (by decide)]⟩
        · unfold f_J4_append_cf468_o141g
          rw [a1, bd_some, bd_some, e_ln141 a3, bd_some, bp_some]
        · rw [nm_q, e0, wf_e, nm_q, e1]
        · refine RR_tl hR (fun q q0 q1 => a2 q (by omega) (by omega)) (fun q q0 q1 _ _ _ => by rw [st_n q0, st_n q1]) (fun j j0 _ _ => by rw [st_s, if_neg j0, st_n (by decide)]) ?_ ?_
          · refine tx_of (by rw [e1]; exact a3) (by rw [e1]; omega) (fun k k0 k1 => ?_)
            rw [e1] at k1
            rw [st_n (by decide)]
            by_cases hk : k = ν 0 10
            · rw [hk, a4, st_s, if_pos rfl]
              omega
            · rw [a5 k k0 (by omega), st_s, if_neg hk]
              exact x5 k k0 (by omega)
          · refine ln_k (a2 149 (by decide) (by decide)) (a2 150 (by decide) (by decide)) ?_ ?_ hln
            · rw [st_s, if_neg (by decide), st_n (by decide)]
            · rw [st_n (by decide), st_n (by decide)]
end SB
