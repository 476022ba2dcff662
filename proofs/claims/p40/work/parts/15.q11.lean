/-! the law's loop: what holds behind each drawn call -/
section QZ
variable {μ ν : mu_T}
def ok9 (t : Nat) (ν : mu_T) (o : Option (Int × mu_T)) : Prop := ∃ (r : Int) (μ1 ν1 : mu_T), o = some (r, μ1) ∧ RR_ (t + 18) μ1 ν1 ∧ ev_9 ν ν1 r ∧ ν1 0 10 = 0
theorem ok_up {t : Nat} {o y : Option (Int × mu_T)} (h10 : ν 0 10 = 0) (h : ∃ (r : Int) (μ1 ν1 : mu_T), o = some (r, μ1) ∧ y = some (r, ν1) ∧ RR_ (t + 1) μ1 ν1 ∧ ev_9 ν ν1 r) : ok9 t ν o := by
  obtain ⟨r, μ1, ν1, h1, -, h2, h3⟩ := h
  exact ⟨r, μ1, ν1, h1, RR_le (by omega) h2, h3, h3.2.1 h10⟩
theorem a_app {tx : Int → Int} (hx : ∀ q : Nat, q < 16 → -128 ≤ tx q ∧ tx q ≤ 127) : ∀ (n i t : Nat) (μ ν : mu_T), RR_ t μ ν → t + n < 5000 → i + n ≤ 16 → ∃ (μ1 ν1 : mu_T), ap_9 tx n i μ = some μ1 ∧ RR_ (t + n) μ1 ν1 ∧ ν1 1 = ν 1 ∧ ν1 4 = ν 4 ∧ ν1 0 4 = ν 0 4
  | 0, i, t, μ, ν, hR, _, _ => ⟨μ, ν, rfl, hR, rfl, rfl, rfl⟩
  | n + 1, i, t, μ, ν, hR, ht, hi => by
    have hq := hx i (by omega)
    obtain ⟨r, μ1, ν1, a1, -, a3, a4, a5, a6⟩ := p_append t μ ν (tx (i : Int)) (by omega) hR ⟨by omega, by omega⟩
    obtain ⟨μ2, ν2, b1, b2, b3, b4, b5⟩ := a_app hx n (i + 1) (t + 1) μ1 ν1 a3 (by omega) (by omega)
    refine ⟨μ2, ν2, ?_, by rw [show t + (n + 1) = t + 1 + n by omega]; exact b2, b3.trans a4, b4.trans a5, b5.trans a6⟩
    show bp_ (f_X11_appendg μ (tx (i : Int))) (fun _ μ1 => ap_9 tx n ((i : Int) + 1) μ1) = _
    rw [a1, bp_some]
    exact b1
theorem a_text {t : Nat} {v a b : Int} (hR : RR_ t μ ν) (ht : t + 18 < 5000) (hv : 0 ≤ v ∧ v < 1000) (ha : 0 ≤ a ∧ a < 9) (hb : 0 ≤ b ∧ b < 9) : ok9 t ν (bd_ (f_L_text v a b) (fun σ => bd_ (ap_9 (σ 1) (σ 0 3).toNat 0 μ) (fun μ1 => f_X11_run μ1))) := by
  obtain ⟨σ, n, k1, k2, k3, k4, k5, k6, -, -⟩ := tk_all v a b hv ha hb
  obtain ⟨μ1, ν1, b1, b2, b3, b4, b5⟩ := a_app (tx := σ 1) k3 n 0 t μ ν hR (by omega) (by omega)
  obtain ⟨r, μ2, ν2, c1, -, c3, c4, c5⟩ := p_run (t + n) μ1 ν1 (by omega) b2
  have hw : ∀ m, hw_ ν1 m = hw_ ν m := fun m => by
    unfold hw_
    rw [b4, b5]
  refine ⟨r, μ2, ν2, ?_, RR_le (by omega) c3, ⟨?_, fun _ => c5, c4.2.2⟩, c5⟩
  · rw [k1, bd_some, k6, show ((n : Int)).toNat = n from rfl]
    have e : ap_9 (σ 1) n 0 μ = some μ1 := b1
    rw [e, bd_some, c1]
  · rcases c4.1 with ⟨g1, g2, g3, g4⟩ | ⟨g1, g2, g3, g4, g5⟩
    · exact Or.inl ⟨g1, by rw [← b3]; exact g2, g3.trans b5, g4.trans b4⟩
    · exact Or.inr ⟨g1, by rw [← b5]; exact g2, by rw [← b3]; exact g3, fun m m0 m1 => by rw [← hw]; exact g4 m m0 m1, by rw [← b3]; exact g5⟩
theorem tw_P {α : Type} {P : Option α → Prop} {a v : Int} {vs : List Int} {b : Option α} {bs : List (Option α)} {df : Option α} (hb : P b) (h : P (tw_ a vs bs df)) : P (tw_ a (v :: vs) (b :: bs) df) := by
  show P (if a = v then b else tw_ a vs bs df)
  by_cases z : a = v
  · rw [if_pos z]
    exact hb
  · rw [if_neg z]
    exact h
theorem ts_22 {α : Type} {a : Int} {b0 b1 b2 b3 b4 b5 b6 b7 b8 b9 b10 b11 b12 b13 b14 b15 b16 b17 b18 b19 b20 b21 df : Option α} {P : Option α → Prop} (ha : 0 ≤ a ∧ a < 24) (h0 : P b0) (h1 : P b1) (h2 : P b2) (h3 : P b3) (h4 : P b4) (h5 : P b5) (h6 : P b6) (h7 : P b7) (h8 : P b8) (h9 : P b9) (h10 : P b10) (h11 : P b11) (h12 : P b12) (h13 : P b13) (h14 : P b14) (h15 : P b15) (h16 : P b16) (h17 : P b17) (h18 : P b18) (h19 : P b19) (h20 : P b20) (h21 : P b21) (hd : P df) : P (ts_ a [0, 1, 2, 3, 4, 5, 6, 7, 8, 9, 10, 11, 12, 13, 14, 15, 16, 17, 18, 19, 20, 21] [b0, b1, b2, b3, b4, b5, b6, b7, b8, b9, b10, b11, b12, b13, b14, b15, b16, b17, b18, b19, b20, b21] df) := by
  have hr : rg_ a := ⟨by omega, by omega⟩
  unfold ts_
  rw [if_pos hr]
  have hd' : P (tw_ a [] [] df) := hd
  exact tw_P h0 (tw_P h1 (tw_P h2 (tw_P h3 (tw_P h4 (tw_P h5 (tw_P h6 (tw_P h7 (tw_P h8 (tw_P h9 (tw_P h10 (tw_P h11 (tw_P h12 (tw_P h13 (tw_P h14 (tw_P h15 (tw_P h16 (tw_P h17 (tw_P h18 (tw_P h19 (tw_P h20 (tw_P h21 hd')))))))))))))))))))))
theorem a_does {t : Nat} {kd v a b : Int} (hR : RR_ t μ ν) (ht : t + 18 < 5000) (h10 : ν 0 10 = 0) (hk : 0 ≤ kd ∧ kd < 24) (hv : 0 ≤ v ∧ v < 1000) (ha : 0 ≤ a ∧ a < 9) (hb : 0 ≤ b ∧ b < 9) : ok9 t ν (f_L_does μ kd v a b) := by
  have rv : rg_ v := ⟨by omega, by omega⟩
  have ra : rg_ a := ⟨by omega, by omega⟩
  have rb : rg_ b := ⟨by omega, by omega⟩
  have ht1 : t < 5000 := by omega
  have hm : ∀ (n : Int) (f : Int → Option (Int × mu_T)), 0 < n → n ≤ 8 → (∀ w, rg_ w → ok9 t ν (f w)) → ok9 t ν (rm_ v n f) := fun n f n0 n1 h => by
    rw [rm_e rv ⟨by omega, by omega⟩ hv.1 (by omega)]
    have w1 := Int.emod_nonneg v (show n ≠ 0 by omega)
    have w2 := Int.emod_lt_of_pos v n0
    exact h _ ⟨by omega, by omega⟩
  have q0 : ok9 t ν (rm_ v 4 (fun w => eq_ w 0 (f_X11_urn μ 1) (f_X11_urn μ 0))) := hm 4 _ (by decide) (by decide) (fun w hw => by
    by_cases z : w = 0
    · rw [eq_y z]
      exact ok_up h10 (p_urn t μ ν 1 ht1 hR (by decide) (Or.inr rfl))
    · rw [eq_n hw (by decide) z]
      exact ok_up h10 (p_urn t μ ν 0 ht1 hR (by decide) (Or.inl rfl)))
  have q4 : ok9 t ν (rm_ v 5 (fun w => f_X11_tie μ a w b)) := hm 5 _ (by decide) (by decide) (fun w hw => ok_up h10 (p_tie t μ ν a w b ht1 hR ra hw rb))
  have q9 : ok9 t ν (rm_ v 4 (fun w => f_X11_untie μ a w)) := hm 4 _ (by decide) (by decide) (fun w hw => ok_up h10 (p_untie t μ ν a w ht1 hR ra hw))
  have q10 : ok9 t ν (f_X11_weak μ a b) := ok_up h10 (p_weak t μ ν a b ht1 hR ra rb)
  have q11 : ok9 t ν (f_X11_unweak μ a) := ok_up h10 (p_unweak t μ ν a ht1 hR ra)
  have q12 : ok9 t ν (rm_ v 7 (fun w => f_X11_name μ w a)) := hm 7 _ (by decide) (by decide) (fun w hw => ok_up h10 (p_name t μ ν w a ht1 hR hw ra))
  have q14 : ok9 t ν (rm_ v 7 (fun w => f_X11_drop μ w)) := hm 7 _ (by decide) (by decide) (fun w hw => ok_up h10 (p_drop t μ ν w ht1 hR hw))
  have q15 : ok9 t ν (f_X11_begin μ) := ok_up h10 (p_begin t μ ν ht1 hR)
  have q16 : ok9 t ν (rm_ v 8 (fun w => f_X11_step μ w)) := hm 8 _ (by decide) (by decide) (fun w hw => ok_up h10 (p_step t μ ν w ht1 hR hw))
  have q19 : ok9 t ν (f_X11_round μ) := ok_up h10 (p_round t μ ν ht1 hR)
  have q20 : ok9 t ν (f_X11_rite μ) := ok_up h10 (p_rite t μ ν ht1 hR)
  have qd := a_text hR ht hv ha hb
  unfold f_L_does
  exact ts_22 (P := ok9 t ν) hk q0 q0 q0 q0 q4 q4 q4 q4 q4 q9 q10 q11 q12 q12 q14 q15 q16 q16 q16 q19 q20 q20 qd
/-- the relation -/
def IV_9 : IV_T := fun n made μ S => ∃ (ν : mu_T) (t : Nat), RR_ t μ ν ∧ t ≤ 20 * n ∧ iv_B (ν 1) ∧ ν 0 10 = 0 ∧ ν 0 4 = (if (made : Int) < 8 then (made : Int) else 8) ∧ sm9_ (ν 1) = S (made : Int) ∧ ∀ m, 0 ≤ m → m < ν 0 4 → sm9_ (hw_ ν m) = S ((made : Int) - 1 - m)
theorem lhs_9 : lh_s IV_9 := by
  intro n made μ S kd v a b hn hm hV hk hv ha hb
  obtain ⟨ν, t, hR, ht, hB, h10, h4, hs, hh⟩ := hV
  obtain ⟨r, μ1, ν1, d1, d2, d3, d4⟩ := a_does hR (by omega) h10 hk hv ha hb
  have hB1 : iv_B (ν1 1) := by
    rcases d3.1 with ⟨g1, g2, g3, g4⟩ | ⟨g1, g2, g3, g4, g5⟩
    · exact sr_B hR.1.2.2.2.1 g2 hB
    · exact g5 hB
  obtain ⟨μ2, e1, e2, e3⟩ := L_isWhole d2 hB1
  have s2 := RR_sum e2 (by omega)
  refine ⟨sm9_ (ν 1), ν 0 4, r, μ1, μ2, d3.2.2, RR_sum hR (by omega), v_acc15 hR, d1, e1, ?_⟩
  rcases d3.1 with ⟨g1, g2, g3, g4⟩ | ⟨g1, g2, g3, g4, g5⟩
  · have w := RR_sr hR (by omega) g2
    refine Or.inl ⟨g1.1, g1.2, by rw [s2, w], by rw [v_acc15 e2, g3], by rw [v_acc14 e2, d4], ν1, t + 18, e2, by omega, hB1, d4, g3.trans h4, w.trans hs, fun m m0 m1 => ?_⟩
    rw [g3] at m1
    have hw : hw_ ν1 m = hw_ ν m := by
      unfold hw_
      rw [g3, g4]
    rw [hw]
    exact hh m m0 m1
  · refine Or.inr ⟨g1, sm9_ (ν1 1), s2, ν1, t + 18, e2, by omega, hB1, d4, ?_, ?_, fun m m0 m1 => ?_⟩
    · rw [g2, h4]
      by_cases w : (made : Int) < 8
      · rw [if_pos w, if_neg (by omega)]
        by_cases w2 : (made : Int) + 1 < 8
        · rw [if_pos (by omega)]
          omega
        · rw [if_neg (by omega)]
          omega
      · rw [if_neg w, if_pos rfl, if_neg (by omega)]
    · exact (ur_y (f := S)).symm
    · have hS : ∀ j : Int, j ≠ ((made + 1 : Nat) : Int) → ur_ S ((made + 1 : Nat) : Int) (sm9_ (ν1 1)) j = S j := fun j hj => ur_n hj
      by_cases hm0 : m = 0
      · rw [hm0, hS _ (by omega), RR_sr hR (by omega) g3, hs]
        exact congrArg S (by omega)
      · have q := g4 (m - 1) (by omega) (by omega)
        rw [show m - 1 + 1 = m by omega] at q
        have m2 : m - 1 < ν 0 4 := by
          rw [g2] at m1
          split at m1 <;> omega
        rw [hS _ (by omega), RR_sk hR (by omega) (by omega) m2 q, hh (m - 1) (by omega) m2]
        exact congrArg S (by omega)
theorem lhe_9 : lh_e IV_9 := by
  intro made μ S hm hV
  obtain ⟨ν, t, hR, ht, hB, h10, h4, hs, hh⟩ := hV
  obtain ⟨μ1, ν1, a1, a2, a3⟩ := L_isKept (M := (made : Int)) (RR_151 (g := S) hR) (by omega) hB ⟨by omega, by omega⟩ h4 (by rw [um_self]; exact hs) (fun m m0 m1 => by rw [um_self]; exact hh m m0 m1)
  obtain ⟨μ2, b1⟩ := L_isRound a2 (by omega) a3
  exact ⟨μ1, μ2, a1, b1⟩
theorem lh0_9 : ∃ w, f_L_sum_o132 mX0_ = some w ∧ IV_9 0 0 mX0_ (ur_ (fun _ => 0) 0 w) := by
  have hB : iv_B (mM0_ 1) := by
    rw [e_mM0, um_self]
    have vB : ∀ j, 113 ≤ j → j < 233 → s0_ 24 j = -15 := fun j a b => if_pos (by omega)
    have vC : ∀ j, (j < 11 ∨ (17 ≤ j ∧ j < 113) ∨ 233 ≤ j) → s0_ 24 j = 0 := fun j a => if_neg (by omega)
    generalize s0_ 24 = s at vB vC
    have q0 := vC 0 (by omega)
    exact ⟨fun k k0 k1 _ => vB _ (by omega) (by omega), fun q => by omega, fun q => by omega, fun _ c c0 c1 => vC _ (by omega), fun q => by omega⟩
  have n0 : ∀ j, mM0_ 0 j = 0 := fun j => by
    rw [e_mM0]
    rfl
  refine ⟨_, RR_sum p_start (by decide), mM0_, 0, p_start, by decide, hB, n0 10, (n0 4).trans rfl, (ur_y (f := fun _ => 0)).symm, fun m m0 m1 => ?_⟩
  rw [n0 4] at m1
  omega
end QZ
