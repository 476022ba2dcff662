/-! an order's text is built -/
section QT
variable {μ : mu_T} {c x z : Int}
/-- a builder of sixteen bytes with c signs -/
def sbT (m : mu_T) (c : Int) : Prop := m 0 1 = 0 ∧ m 1 (-1) = 16 ∧ m 0 3 = c ∧ ∀ q, 0 ≤ q → q < 16 → 0 ≤ m 1 q ∧ m 1 q ≤ 127
theorem sl_z9 : ∀ n : Nat, n ≤ 16 → sl_ (n : Int) 0 = n := by decide +kernel
theorem sr_z8 : ∀ n : Nat, n ≤ 16 → sr_ (n : Int) 0 = n := by decide +kernel
theorem sc_p : ∀ k : Nat, k < 16 → ∀ i : Nat, i < 20 → 0 ≤ sc_ (k : Int) (i : Int) ∧ sc_ (k : Int) (i : Int) ≤ 127 := by decide +kernel
theorem sn_p : ∀ k : Nat, k < 16 → 0 ≤ sn_ (k : Int) ∧ sn_ (k : Int) ≤ 10 := by decide +kernel
theorem bl_16 (h : μ 1 (-1) = 16) : bl_ μ 1 = 16 := by
  unfold bl_
  rw [h]
  rfl
theorem e_ens {n : Int} (h : sbT μ c) (hn : 0 ≤ n ∧ n ≤ 16) : f_J5_ensureCapacityInternal_d00df_o0 μ n = some μ := by
  unfold f_J5_ensureCapacityInternal_d00df_o0
  rw [nm_q, nm_q, nm_q, bl_16 h.2.1, h.1, show sr_ (16 : Int) 0 = 16 from sr_z8 16 (by decide), lt_n (by decide) (by omega) (by omega)]
theorem e_apS (h : sbT μ c) (hz : 0 ≤ z ∧ z < 16) (hc : 0 ≤ c ∧ c + sn_ z ≤ 16) : ∃ m, f_J4_append_15ec4_o0 μ z = some m ∧ sbT m (c + sn_ z) := by
  have hp := sn_p z.toNat (by omega)
  rw [show ((z.toNat : Nat) : Int) = z by omega] at hp
  refine ⟨st_ (um_ μ 1 (fun j => if c ≤ j ∧ j < c + sn_ z then sc_ z (0 + (j - c)) else μ 1 j)) 0 3 (c + sn_ z), ?_, ?_⟩
  · unfold f_J4_append_15ec4_o0 f_J5_append_cf1ce_o0
    rw [gd_e hz, e_slen hz, bd_some, nm_q, h.2.2.1, e_ens h (by omega), bd_some, nm_q, h.2.2.1]
    have e1 : f_J5_putStringAt_47b60_o0 μ c z = some (um_ μ 1 (fun j => if c ≤ j ∧ j < c + sn_ z then sc_ z (0 + (j - c)) else μ 1 j)) := by
      unfold f_J5_putStringAt_47b60_o0 f_J5_inflateIfNeededFor_a7421_o0 f_J0_getBytes_840e7_o1 f_J0_coder_7d493
      have e0 := sl_z9 c.toNat (by omega)
      rw [show ((c.toNat : Nat) : Int) = c by omega] at e0
      have e2 := bl_16 h.2.1
      rw [eq_n (by decide) (by decide) (by decide), nm_q, gd_e hz, eq_n (by decide) (by decide) (by decide), gd_e hz, bd_some, eq_y h.1, bd_some, nm_q, h.1, gd_e hz, gd_e hz, bd_some, eq_y rfl, gd_e hz, gd_e hz, gd_e hz, e0]
      have e3 : as_ μ z 0 1 c (sn_ z) (fun μ22 => some μ22) = some (um_ μ 1 (fun j => if c ≤ j ∧ j < c + sn_ z then sc_ z (0 + (j - c)) else μ 1 j)) := if_pos ⟨hz, ⟨by omega, by omega, by omega⟩, by omega, by omega, by omega⟩
      rw [e3, bd_some]
    rw [e1, bd_some, nm_q]
    have e4 : um_ μ 1 (fun j => if c ≤ j ∧ j < c + sn_ z then sc_ z (0 + (j - c)) else μ 1 j) 0 3 = c := by
      rw [um_ne (by decide)]
      exact h.2.2.1
    rw [e4]
    rfl
  · have q0 : ∀ j, j ≠ 3 → st_ (um_ μ 1 (fun j => if c ≤ j ∧ j < c + sn_ z then sc_ z (0 + (j - c)) else μ 1 j)) 0 3 (c + sn_ z) 0 j = μ 0 j := fun j hj => by
      rw [st_s, if_neg hj, um_ne (by decide)]
    have q1 : st_ (um_ μ 1 (fun j => if c ≤ j ∧ j < c + sn_ z then sc_ z (0 + (j - c)) else μ 1 j)) 0 3 (c + sn_ z) 1 = fun j => if c ≤ j ∧ j < c + sn_ z then sc_ z (0 + (j - c)) else μ 1 j := by
      rw [st_n (by decide), um_self]
    refine ⟨(q0 1 (by decide)).trans h.1, ?_, by rw [st_s, if_pos rfl], fun q a b => ?_⟩
    · rw [q1]
      show (if c ≤ (-1 : Int) ∧ (-1 : Int) < c + sn_ z then _ else μ 1 (-1)) = 16
      rw [if_neg (by omega)]
      exact h.2.1
    · rw [q1]
      show 0 ≤ (if c ≤ q ∧ q < c + sn_ z then sc_ z (0 + (q - c)) else μ 1 q) ∧ (if c ≤ q ∧ q < c + sn_ z then sc_ z (0 + (q - c)) else μ 1 q) ≤ 127
      by_cases w : c ≤ q ∧ q < c + sn_ z
      · rw [if_pos w]
        have e5 := sc_p z.toNat (by omega) (q - c).toNat (by omega)
        rw [show ((z.toNat : Nat) : Int) = z by omega, show (((q - c).toNat : Nat) : Int) = 0 + (q - c) by omega] at e5
        exact e5
      · rw [if_neg w]
        exact h.2.2.2 q a b
theorem e_ssz (hx : 0 ≤ x ∧ x ≤ 9) : f_J6_stringSize_0f7a4 μ x = some 1 := by
  obtain ⟨F, hF, hF2⟩ := F_big
  obtain ⟨F', rfl⟩ : ∃ F', F = F' + 1 := ⟨F - 1, by omega⟩
  unfold f_J6_stringSize_0f7a4
  rw [← hF2]
  simp only [jn_e]
  rw [lt_n (by omega) (by decide) (by omega), nm_q, f_J6_stringSize_0f7a4_L16, lt_y (by decide) (by decide) (by decide), lt_y (by decide) (by omega) (by omega)]
  rfl
theorem dg_p : ∀ n : Nat, n ≤ 9 → i2b_ (48 + (-(-(n : Int))) % 10) = 48 + n := by decide +kernel
theorem e_gch {i : Int} (h : sbT μ c) (hx : 0 ≤ x ∧ x ≤ 9) (hi : 0 ≤ i ∧ i < 16) : f_J6_getChars_ba4f3_o1 μ x (i + 1) = some (i, st_ μ 1 i (48 + x)) := by
  obtain ⟨F, hF, hF2⟩ := F_big
  obtain ⟨F', rfl⟩ : ∃ F', F = F' + 1 := ⟨F - 1, by omega⟩
  have e1 := dg_p x.toNat (by omega)
  rw [show ((x.toNat : Nat) : Int) = x by omega] at e1
  have e2 : ∀ f : mu_T → Option (Int × mu_T), wb_ μ 1 (i + 1 + (-1)) (48 + (-(-x)) % 10) f = f (st_ μ 1 i (48 + x)) := fun f => by
    rw [show i + 1 + (-1) = i by omega]
    have e3 : wb_ μ 1 i (48 + (-(-x)) % 10) f = f (st_ μ 1 i (i2b_ (48 + (-(-x)) % 10))) := by
      have e4 := bl_16 h.2.1
      exact if_pos ⟨⟨by omega, by omega⟩, by omega⟩
    rw [e3, e1]
  unfold f_J6_getChars_ba4f3_o1
  rw [← hF2]
  simp only [jn_e]
  rw [lt_n (by omega) (by decide) (by omega), eq_y rfl, nm_q, f_J6_getChars_ba4f3_o1_L22, lt_y (by decide) (by omega) (by omega), nm_q, gd_e (by omega), e2, lt_n (by omega) (by decide) (by omega), eq_y rfl, show i + 1 + (-1) = i by omega]
theorem e_lat (h : sbT μ c) : f_J5_isLatin1_aae02_o0 μ = some 1 := by
  unfold f_J5_isLatin1_aae02_o0
  rw [eq_n (by decide) (by decide) (by decide), nm_q, eq_y h.1]
theorem e_apI (h : sbT μ c) (hx : 0 ≤ x ∧ x ≤ 9) (hc : 0 ≤ c ∧ c < 16) : ∃ m, f_J4_append_bf812_o0 μ x = some m ∧ sbT m (c + 1) := by
  refine ⟨st_ (st_ μ 1 c (48 + x)) 0 3 (c + 1), ?_, ?_⟩
  · unfold f_J4_append_bf812_o0 f_J5_append_c97b9_o0
    simp only [jn_e]
    rw [nm_q, h.2.2.1, e_ssz hx, bd_some, nm_q, e_ens h (by omega), bd_some, e_lat h, bd_some, eq_n (by decide) (by decide) (by decide), e_gch h hx hc, bp_some]
    rfl
  · have q1 : st_ (st_ μ 1 c (48 + x)) 0 3 (c + 1) 1 = st_ μ 1 c (48 + x) 1 := st_n (by decide)
    refine ⟨?_, ?_, by rw [st_s, if_pos rfl], fun q a b => ?_⟩
    · rw [st_s, if_neg (by decide), st_n (by decide)]
      exact h.1
    · rw [q1, st_s, if_neg (by omega)]
      exact h.2.1
    · rw [q1, st_s]
      by_cases w : q = c
      · rw [if_pos w]
        omega
      · rw [if_neg w]
        exact h.2.2.2 q a b
theorem sb_0 : sbT mS0_ 0 := ⟨rfl, rfl, rfl, fun q a b => by
  have e : mS0_ 1 q = 0 := by
    show br_ 16 q = 0
    unfold br_
    exact if_neg (by omega)
  rw [e]
  decide⟩
theorem tk_all (v a b : Int) (hv : 0 ≤ v ∧ v < 1000) (ha : 0 ≤ a ∧ a < 9) (hb : 0 ≤ b ∧ b < 9) : tk_9 v a b := by
  have s10 : sn_ 10 = 4 := by decide +kernel
  have s11 : sn_ 11 = 1 := by decide +kernel
  have s12 : sn_ 12 = 1 := by decide +kernel
  have s13 : sn_ 13 = 7 := by decide +kernel
  have s14 : sn_ 14 = 5 := by decide +kernel
  have s15 : sn_ 15 = 1 := by decide +kernel
  obtain ⟨m1, f1, h1⟩ := e_apS (z := 10) sb_0 (by decide) (by omega)
  rw [s10] at h1
  obtain ⟨m2, f2, h2⟩ := e_apI (x := a) h1 (by omega) (by omega)
  obtain ⟨m3, f3, h3⟩ := e_apS (z := 11) h2 (by decide) (by omega)
  rw [s11] at h3
  obtain ⟨m4, f4, h4⟩ := e_apI (x := v % 4) h3 (by omega) (by omega)
  obtain ⟨m5, f5, h5⟩ := e_apS (z := 12) h4 (by decide) (by omega)
  rw [s12] at h5
  obtain ⟨m6, f6, h6⟩ := e_apI (x := b) h5 (by omega) (by omega)
  have key : ∃ (σ : mu_T) (n : Nat), f_L_text v a b = some σ ∧ sbT σ (n : Int) ∧ n ≤ 16 := by
    have e1 : f_L_text v a b = rm_ v 3 (fun u => eq_ u 0 (f_J4_append_15ec4_o0 m6 13) (rm_ v 3 (fun u2 => eq_ u2 1 (f_J4_append_15ec4_o0 m6 14) (f_J4_append_15ec4_o0 m6 15)))) := by
      unfold f_L_text
      rw [f1, bd_some, f2, bd_some, f3, bd_some, rm_e (by omega) (by decide) hv.1 (by decide), f4, bd_some, f5, bd_some, f6, bd_some]
    rw [e1, rm_e (by omega) (by decide) hv.1 (by decide), rm_e (by omega) (by decide) hv.1 (by decide)]
    by_cases w0 : v % 3 = 0
    · rw [eq_y w0]
      obtain ⟨m7, f7, h7⟩ := e_apS (z := 13) h6 (by decide) (by omega)
      rw [s13] at h7
      exact ⟨m7, 16, f7, h7, by decide⟩
    · rw [eq_n (by omega) (by decide) w0]
      by_cases w1 : v % 3 = 1
      · rw [eq_y w1]
        obtain ⟨m7, f7, h7⟩ := e_apS (z := 14) h6 (by decide) (by omega)
        rw [s14] at h7
        exact ⟨m7, 14, f7, h7, by decide⟩
      · rw [eq_n (by omega) (by decide) w1]
        obtain ⟨m7, f7, h7⟩ := e_apS (z := 15) h6 (by decide) (by omega)
        rw [s15] at h7
        exact ⟨m7, 10, f7, h7, by decide⟩
  obtain ⟨σ, n, k1, ⟨k2, k3, k4, k5⟩, k6⟩ := key
  have t0 : bl_ (tT_ σ n) 0 = (n : Int) := by
    show (((if (-1 : Int) = -1 then (n : Int) else σ 1 (-1)).toNat : Nat) : Int) = n
    rw [if_pos rfl]
    omega
  have t1 : ∀ i : Nat, tT_ σ n 0 (i : Int) = σ 1 (i : Int) := fun i => by
    show (if (i : Int) = -1 then (n : Int) else σ 1 (i : Int)) = _
    rw [if_neg (by omega)]
  refine ⟨σ, n, k1, k3, fun q hq => ?_, k6, k2, k4, ?_, fun i hi => ?_⟩
  · have w := k5 q (by omega) (by omega)
    omega
  · unfold f_J0_length_8abf5_o1 f_J0_coder_7d493_o1
    rw [nm_q, t0, eq_n (by decide) (by decide) (by decide), nm_q]
    have e : rB_ (tT_ σ n 1 1) = some 0 := rfl
    rw [e, bd_some, sr_z8 n k6]
  · have w := k5 i (by omega) (by omega)
    unfold f_J0_charAt_5068e_o1 f_J0_isLatin1_aae02_o1 f_J1_charAt_3b067_o0 f_J0_checkIndex_df160 f_J3_checkIndex_8e157
    rw [eq_n (by decide) (by decide) (by decide), nm_q, eq_y (show tT_ σ n 1 1 = 0 from rfl), bd_some, eq_n (by decide) (by decide) (by decide), nm_q, t0, lt_n (by omega) (by decide) (by omega), lt_y (by omega) (by omega) (by omega), bd_some, bd_some]
    have e1 : rb_ (tT_ σ n) 0 (i : Int) (fun v8 => rc_ (i2c_ (an_ v8 255))) = rc_ (i2c_ (an_ (σ 1 (i : Int)) 255)) := by
      rw [← t1 i]
      exact if_pos ⟨⟨by omega, by rw [t0]; omega⟩, by rw [t0]; omega⟩
    rw [e1, an_255 (by omega), i2c_n (by omega)]
    unfold rc_
    rw [if_pos (by omega), bd_some, if_pos (by omega)]
end QT
