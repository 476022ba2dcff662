/-! each change that is undone gives back what was before, and the snapshot comes back -/
section QK
variable {μ ν μ1 : mu_T} {s s' : Int → Int}
theorem RR_e {t : Nat} (hR : RR_ t μ ν) (hμ : ∀ q, q < 151 → q ≠ 137 → μ1 q = μ q) : RR_ t μ1 ν := by
  obtain ⟨h1, h2, h3, h4, h5, h6⟩ := hR
  exact ⟨⟨hr_x (fun j hj => hμ j (by omega) (by omega)) h1.1, h1.2⟩, sd_k (Int.le_refl _) h2 (fun q a b => hμ q (by omega) (by omega)) (by rw [hμ 138 (by decide) (by decide)]) rfl rfl, hs_k (Int.le_refl _) h3 (fun q a b => hμ q (by omega) (by omega)) (by rw [hμ 138 (by decide) (by decide)]) (by rw [hμ 138 (by decide) (by decide)]) rfl rfl, rs_k (hμ 133 (by decide) (by decide)) rfl rfl h4, tx_k (hμ 141 (by decide) (by decide)) (hμ 142 (by decide) (by decide)) rfl rfl h5, ln_k (hμ 149 (by decide) (by decide)) (hμ 150 (by decide) (by decide)) rfl rfl h6⟩
theorem RR_151 {t : Nat} {g : Int → Int} (hR : RR_ t μ ν) : RR_ t (um_ μ 151 g) ν := RR_e hR (fun q hq _ => um_ne (by omega))
theorem RR_le {t t' : Nat} (h : t ≤ t') (hR : RR_ t μ ν) : RR_ t' μ ν := by
  induction t' with
  | zero =>
    rw [show t = 0 by omega] at hR
    exact hR
  | succ n ih =>
    by_cases he : t = n + 1
    · rw [he] at hR
      exact hR
    · exact RR_skip n μ ν (ih (by omega))
theorem sm_sr {t : Int} (hr : hr_ μ s) (hI : iv_ t s) (ht : t ≤ 1000000) (h : sr_9 s s') : sm9_ s' = sm9_ s := by
  have h2 := hv_x h (show hv_ t μ s from ⟨hr, hI⟩)
  have e1 := v_sum hr hI ht
  have e2 := v_sum h2.1 h2.2 ht
  rw [e1] at e2
  exact (Option.some.inj e2).symm
theorem RR_sum {t : Nat} (hR : RR_ t μ ν) (ht : t < 5000) : f_L_sum_o132 μ = some (sm9_ (ν 1)) := v_sum hR.1.1 hR.1.2 (by omega)
theorem RR_sr {t : Nat} (hR : RR_ t μ ν) (ht : t < 5000) (h : sr_9 (ν 1) s') : sm9_ s' = sm9_ (ν 1) := sm_sr hR.1.1 hR.1.2 (by omega) h
/-- a row that is kept has the sum of each row that agrees with it -/
theorem RR_sk {t : Nat} (hR : RR_ t μ ν) (ht : t < 5000) {m : Int} (m0 : 0 ≤ m) (m1 : m < ν 0 4) (h : sr_9 (hw_ ν m) s') : sm9_ s' = sm9_ (hw_ ν m) := by
  obtain ⟨g1, g2, g3, g4⟩ := hR.2.2.1
  have w := g4 m m0 m1
  exact sm_sr (μ := fun r => μ (12 * hp_ (μ 138 4) m + r)) w.1 w.2 (by omega) h
theorem be_some {α β : Type} {μ m : mu_T} {a : β} {f : β → mu_T → Option α} : be_ μ (some (a, m)) f = f a (um_ m 151 (μ 151)) := rfl
theorem l_k44 {S : Int → Int} {J : mu_T → Option (Int × mu_T)} : ∀ (n t : Nat) (M : Int) (μ ν : mu_T), RR_ t μ ν → t + n + 2 < 5000 → ν 0 4 = n → n ≤ 8 → n ≤ M → M ≤ 50 → μ 151 = S → (∀ m, 0 ≤ m → m < ν 0 4 → sm9_ (hw_ ν m) = S (M - 1 - m)) → ∀ f : Nat, n < f → ∃ (μ1 ν1 : mu_T), f_L_isKept_o132_L44 J f n (M - 1) μ = J μ1 ∧ RR_ (t + n) μ1 ν1 ∧ μ1 151 = S ∧ ν1 0 4 = 0 ∧ ν1 3 = ν 3 ∧ ν1 0 5 = ν 0 5 := by
  intro n
  induction n with
  | zero =>
    intro t M μ ν hR ht hn _ _ _ hS _ f hf
    obtain ⟨f', rfl⟩ : ∃ f', f = f' + 1 := ⟨f - 1, by omega⟩
    refine ⟨μ, ν, ?_, hR, hS, hn, rfl, rfl⟩
    rw [f_L_isKept_o132_L44]
    exact lt_n (by decide) (by decide) (by decide)
  | succ n ih =>
    intro t M μ ν hR ht hn hn8 hM hM2 hS hk f hf
    obtain ⟨f', rfl⟩ : ∃ f', f = f' + 1 := ⟨f - 1, by omega⟩
    obtain ⟨r, μ1, ν1, u1, -, u3, u4⟩ := p_undo t μ ν (by omega) hR
    rcases u4 with ⟨z, -, -⟩ | ⟨-, z1, z2, z3, z4, z5, z6⟩
    · omega
    have hR1 : RR_ (t + 1) (um_ μ1 151 S) ν1 := RR_151 u3
    have e1 : sm9_ (ν1 1) = S (M - 1) := by
      rw [RR_sk hR (by omega) (Int.le_refl _) (by omega) z3, hk 0 (Int.le_refl _) (by omega), Int.sub_zero]
    obtain ⟨μ2, ν2, a1, a2, a3, a4, a5, a6⟩ := ih (t + 1) (M - 1) (um_ μ1 151 S) ν1 hR1 (by omega) (by omega) (by omega) (by omega) (by omega) (um_self _ _ _) (fun m m0 m1 => by
      rw [RR_sk hR (by omega) (by omega) (by omega) (z4 m m0 m1), hk (m + 1) (by omega) (by omega)]
      exact congrArg S (by omega)) f' (by omega)
    refine ⟨μ2, ν2, ?_, by rw [show t + (n + 1) = t + 1 + n by omega]; exact a2, a3, a4, a5.trans z5, a6.trans z6⟩
    have e2 := RR_sum hR1 (by omega)
    rw [f_L_isKept_o132_L44, lt_y (by decide) (by omega) (by omega), nm_q, u1, be_some, hS, eq_y (by omega), e2, bd_some, rd_e (by omega) (by omega), um_self]
    unfold lc_
    rw [if_pos e1, eq_y rfl, nm_q, show ((n + 1 : Nat) : Int) + (-1) = (n : Int) by omega, show M - 1 + (-1) = M - 1 - 1 by omega]
    exact a1
theorem L_isKept {t : Nat} {M : Int} (hR : RR_ t μ ν) (ht : t + 20 < 5000) (hB : iv_B (ν 1)) (hM : 0 ≤ M ∧ M ≤ 50) (h4 : ν 0 4 = if M < 8 then M else 8) (h0 : sm9_ (ν 1) = μ 151 M) (hk : ∀ m, 0 ≤ m → m < ν 0 4 → sm9_ (hw_ ν m) = μ 151 (M - 1 - m)) : ∃ (μ1 ν1 : mu_T), f_L_isKept_o132 μ M = some (1, μ1) ∧ RR_ (t + 20) μ1 ν1 ∧ iv_B (ν1 1) := by
  obtain ⟨F, hF, hF2⟩ := F_big
  have hM2 : ν 0 4 ≤ 8 ∧ 0 ≤ ν 0 4 ∧ ν 0 4 ≤ M := by
    rw [h4]
    split <;> omega
  obtain ⟨r, μ1, ν1, s1, -, s3, s4, s5, s6, s7, s8, s9⟩ := p_save t μ ν (by omega) hR
  have hR1 : RR_ (t + 1) (um_ μ1 151 (μ 151)) ν1 := RR_151 s3
  have hw1 : ∀ m, hw_ ν1 m = hw_ ν m := fun m => by
    unfold hw_
    rw [s6, s7]
  obtain ⟨n, hn⟩ : ∃ n : Nat, ν 0 4 = n := ⟨(ν 0 4).toNat, by omega⟩
  have e3 : f_X11_account μ 3 = some (nu_ (ν 1)) := v_account hR.1.1 hR.1.2 (by decide)
  have ey : r = nu_ (ν 1) := s4
  obtain ⟨μ2, ν2, a1, a2, a3, a4, a5, a6⟩ := l_k44 (S := μ 151) (J := fun μ81 => be_ μ81 (f_X11_undo μ81) (fun v82 μ82 => eq_ v82 (-15)
      (be_ μ82 (f_X11_restore μ82) (fun v91 μ91 => eq_ v91 (nu_ (ν 1))
      (bd_ (f_L_sum_o132 μ91) (fun v99 => rd_ μ91 151 60 M (fun v104 => lc_ v99 v104 (eq_ 0 0
      (be_ μ91 (f_X11_undo μ91) (fun v110 μ110 => eq_ v110 (-15)
      (some (1, μ110))
      (none)))
      (none)))))
      (none)))
      (none))) n (t + 1) M (um_ μ1 151 (μ 151)) ν1 hR1 (by omega) (by rw [s7]; exact hn) (by omega) (by omega) hM.2 (um_self _ _ _) (fun m m0 m1 => by
        rw [hw1]
        exact hk m m0 (by rw [← s7]; exact m1)) F (by omega)
  obtain ⟨r3, μ3, ν3, b1, -, b3, b4⟩ := p_undo (t + 1 + n) μ2 ν2 (by omega) a2
  obtain ⟨b5, b6⟩ : r3 = -15 ∧ ν3 = ν2 := by
    rcases b4 with ⟨-, b5, b6⟩ | ⟨z, -⟩
    · exact ⟨b5, b6⟩
    · omega
  rw [b6] at b3
  have hR3 : RR_ (t + 1 + n + 1) (um_ μ3 151 (μ 151)) ν2 := RR_151 b3
  obtain ⟨r4, μ4, ν4, c1, -, c3, c4⟩ := p_restore (t + 1 + n + 1) (um_ μ3 151 (μ 151)) ν2 (by omega) hR3
  obtain ⟨c5, c6, c7⟩ := c4 (by rw [a6]; exact s8)
  have hR4 : RR_ (t + 1 + n + 1 + 1) (um_ μ4 151 (μ 151)) ν4 := RR_151 c3
  have e9 : sr_9 (ν 1) (ν2 3) := by rw [a5]; exact s9
  have e4 : r4 = nu_ (ν 1) := by
    rw [c5]
    exact cn_eq 24 (fun c c0 c1 => by rw [e9 (17 + c) (by omega) (by omega)])
  have e5 : sm9_ (ν4 1) = μ 151 M := by
    rw [RR_sr hR (by omega) (sr_t e9 c6), h0]
  obtain ⟨r5, μ5, ν5, d1, -, d3, d4⟩ := p_undo (t + 1 + n + 1 + 1) (um_ μ4 151 (μ 151)) ν4 (by omega) hR4
  obtain ⟨d5, d6⟩ : r5 = -15 ∧ ν5 = ν4 := by
    rcases d4 with ⟨-, d5, d6⟩ | ⟨z, -⟩
    · exact ⟨d5, d6⟩
    · omega
  rw [d6] at d3
  refine ⟨um_ μ5 151 (μ 151), ν4, ?_, RR_le (by omega) (RR_151 d3), sr_B hR.1.2.2.2.1 (sr_t e9 c6) hB⟩
  unfold f_L_isKept_o132
  rw [← hF2, e3, bd_some, s1, be_some, eq_y ey, v_acc15 hR1, bd_some]
  have em : ∀ (f : Int → Option (Int × mu_T)), mn_ 8 M f = f (ν 0 4) := fun f => by
    unfold mn_
    rw [if_pos ⟨by decide, by omega, by omega⟩, h4]
  rw [em, eq_y s7, em, nm_q]
  simp only [jn_e]
  rw [hn]
  refine a1.trans ?_
  rw [b1, be_some, eq_y b5, a3, c1, be_some, eq_y e4, um_self, RR_sum hR4 (by omega), bd_some, rd_e hM.1 (by omega), um_self]
  unfold lc_
  rw [if_pos e5, eq_y rfl, d1, be_some, eq_y d5, um_self]
end QK
