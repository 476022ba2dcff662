/-! weak threads are cut -/
section CW
variable {t : Int} {s : Int → Int} {μ ν : mu_T}
/-- the row behind one cut -/
def cw_9 (s : Int → Int) (c : Int) : Int → Int := ur_ (ur_ s (113 + c) (-15)) 6 (s 6 + 1)
theorem l_cut {J : mu_T → Option mu_T} {J' : mu_T → Option mu_T} {v : Int} : ∀ (n : Nat) (i : Int), 0 ≤ i → i + n = 24 → ∀ f : Nat, n < f → ∀ (μ : mu_T) (s : Int → Int), hq_ v μ s → iv_ t s → s 0 = 1 → ∃ (μ' : mu_T) (s' : Int → Int), f_X10_beginSweep_L2 J f i μ = J μ' ∧ f_X12_cutsWeak_L2 J' f i (um_ ν 1 s) = J' (um_ ν 1 s') ∧ hq_ v μ' s' ∧ iv_ t s' ∧ (∀ j, j ≠ 6 → (j < 113 + i ∨ 137 ≤ j) → s' j = s j) ∧ (∀ c, i ≤ c → c < 24 → s' (113 + c) ≠ -15 → s' (41 + s' (113 + c)) ≠ 0) ∧ ∀ k, 12 ≤ k → μ' k = μ k := by
  intro n
  induction n with
  | zero =>
    intro i i0 hi f hf μ s hr hI hp
    obtain ⟨f', rfl⟩ : ∃ f', f = f' + 1 := ⟨f - 1, by omega⟩
    refine ⟨μ, s, ?_, ?_, hr, hI, fun _ _ _ => rfl, fun c a b => by omega, fun _ _ => rfl⟩
    · rw [f_X10_beginSweep_L2, lt_n (by omega) (by decide) (by omega)]
    · rw [f_X12_cutsWeak_L2, lt_n (by omega) (by decide) (by omega)]
  | succ n ih =>
    intro i i0 hi f hf μ s hr hI hp
    obtain ⟨f', rfl⟩ : ∃ f', f = f' + 1 := ⟨f - 1, by omega⟩
    have r2 : μ 2 i = s (113 + i) := (hq_d hr).2.1 i i0 (by omega)
    have hw := (hI.2.2.2.1 i i0 (by omega)).1
    have hx : rg_ (s (113 + i)) := (ft_r hw).2
    by_cases h1 : s (113 + i) ≠ -15 ∧ s (41 + s (113 + i)) = 0
    · have hb := ft_in hw h1.1
      have e17 : s (17 + s (113 + i)) = 1 := by
        rcases hw with q | q
        · exact absurd q h1.1
        · exact q.2.2
      have hI2 : iv_ t (cw_9 s i) := iv_sc (j := 6) (by omega) (iv_wk hI (i := i) (v := -15) i0 (by omega) (Or.inl rfl) (fun _ q => absurd rfl q))
      have e6 : μ 0 15 = s 6 := (hq_d hr).2.2.2.2.2.2.2.2.2.2.2.2.2.2.2.1
      have hr2 : hq_ v (st_ (st_ μ 2 i (-15)) 0 15 (s 6 + 1)) (cw_9 s i) := by
        have w := hr_sc (j := 6) (v := s 6 + 1) (hr_wk hr (i := i) (v := -15) i0 (by omega)) ⟨by omega, by omega, by omega⟩
        unfold hq_ cw_9
        rw [ur_co (show (6 : Int) ≠ 7 by decide), ur_co (i := 113 + i) (j := 7) (by omega)]
        exact w
      have low : ∀ j, j ≠ 6 → (j < 113 + i ∨ 137 ≤ j) → cw_9 s i j = s j := fun j a b => by
        unfold cw_9
        rw [ur_n a, ur_n (by omega)]
      have ew : cw_9 s i (113 + i) = -15 := by
        unfold cw_9
        rw [ur_n (by omega), ur_y]
      obtain ⟨μ', s', b1, b2, b3, b4, b5, b6, b7⟩ := ih (i + 1) (by omega) (by omega) f' (by omega) _ _ hr2 hI2 ((low 0 (by omega) (by omega)).trans hp)
      refine ⟨μ', s', ?_, ?_, b3, b4, fun j j0 j1 => (b5 j j0 (by omega)).trans (low j j0 j1), fun c c0 c1 => ?_, fun k hk => ?_⟩
      · have em : (st_ μ 2 i (-15)) 0 15 = s 6 := e6
        rw [f_X10_beginSweep_L2, lt_y (by omega) (by decide) (by omega), rd_e i0 (by omega), r2, e_isWhite hI.1 (hq_4 hr) hx, bd_some, jn_e, tr_0, if_pos ⟨⟨hb, e17⟩, h1.2⟩, wr_e i0 (by omega), nm_q, em, wf_e]
        exact b1
      · have em : (ur_ s (113 + i) (-15)) 6 = s 6 := ur_n (by omega)
        rw [f_X12_cutsWeak_L2, lt_y (by omega) (by decide) (by omega), rd_e (by omega) (by omega), um_self, jn_e, eq_n hx (by decide) h1.1, rd_e (by omega) (by omega), um_self, eq_y h1.2, wr_e (by omega) (by omega), st_um, rd_e (by omega) (by omega), um_self, em, wr_e (by omega) (by omega), st_um]
        exact b2
      · by_cases hc : c = i
        · rw [hc, b5 (113 + i) (by omega) (by omega), ew]
          exact fun q => absurd rfl q
        · exact b6 c (by omega) c1
      · rw [b7 k hk, st_n (by omega), st_n (by omega)]
    · obtain ⟨μ', s', b1, b2, b3, b4, b5, b6, b7⟩ := ih (i + 1) (by omega) (by omega) f' (by omega) μ s hr hI hp
      refine ⟨μ', s', ?_, ?_, b3, b4, fun j j0 j1 => b5 j j0 (by omega), fun c c0 c1 => ?_, b7⟩
      · rw [f_X10_beginSweep_L2, lt_y (by omega) (by decide) (by omega), rd_e i0 (by omega), r2, e_isWhite hI.1 (hq_4 hr) hx, bd_some, jn_e, tr_0, if_neg (fun q => h1 ⟨by have := q.1.1; omega, q.2⟩)]
        exact b1
      · rw [f_X12_cutsWeak_L2, lt_y (by omega) (by decide) (by omega), rd_e (by omega) (by omega), um_self, jn_e]
        by_cases w1 : s (113 + i) = -15
        · rw [eq_y w1]
          exact b2
        · have hb := ft_in hw w1
          have q := (hI.1 _ hb.1 hb.2).2.1
          rw [eq_n hx (by decide) w1, rd_e (by omega) (by omega), um_self, eq_n (by omega) (by decide) (fun z => h1 ⟨w1, z⟩)]
          exact b2
      · by_cases hc : c = i
        · subst hc
          rw [b5 (113 + c) (by omega) (by omega)]
          intro q z
          have hb := ft_in hw q
          rw [b5 _ (by omega) (by omega)] at z
          exact h1 ⟨q, z⟩
        · exact b6 c (by omega) c1
/-- the sweep begins -/
theorem sw_iv (hI : iv_ t s) (hp : s 0 = 1) (h8 : s 8 = 0) (hw : ∀ c, 0 ≤ c → c < 24 → s (113 + c) ≠ -15 → s (41 + s (113 + c)) ≠ 0) : iv_ t (ur_ (ur_ s 0 2) 1 0) := by
  obtain ⟨hT, hP, hH, hW, hM, hD, hG, hL, hC⟩ := hI
  have k0 : ∀ i, 2 ≤ i → ur_ (ur_ s 0 2) 1 0 i = s i := fun i hi => by rw [ur_n (by omega), ur_n (by omega)]
  have e0 : ur_ (ur_ s 0 2) 1 0 0 = 2 := by rw [ur_n (by omega), ur_y]
  have e1 : ur_ (ur_ s 0 2) 1 0 1 = 0 := ur_y
  have sfk : ∀ x, 0 ≤ x → sf_ s x → sf_ (ur_ (ur_ s 0 2) 1 0) x := fun x a h => ⟨fun z => by rw [e0] at z; omega, fun _ q => by
    rw [k0 _ (by omega)] at q
    exact h.1 hp q.1⟩
  refine ⟨iv_T_k (fun j a b => k0 j (by omega)) hT, ⟨by rw [e0]; omega, by rw [e1]; omega, fun q => absurd e0 q⟩, iv_H_k (fun j a b => k0 j (by omega)) (fun k a b => Or.inl (k0 _ (by omega))) hH, fun x x0 x1 => ?_, fun k a b => ?_, ⟨⟨by rw [k0 9 (by omega)]; exact hD.1.1, ?_⟩, fun k a b => ?_, fun j k a b c => ?_, fun c a b d => ?_⟩, ⟨⟨by rw [k0 8 (by omega)]; exact hG.1.1, ?_⟩, fun k a b => ?_, fun j k a b c => ?_, fun _ => by rw [k0 8 (by omega)]; exact h8⟩, iv_L_k (k0 4 (by omega)) (k0 10 (by omega)) hL, iv_C_k (k0 3 (by omega)) (k0 4 (by omega)) (fun j a b => k0 j (by omega)) hC⟩
  · rw [k0 (113 + x) (by omega), e0, e1]
    have q := (hW x x0 x1).1
    refine ⟨ft_k (fun j a b => k0 j (by omega)) q, fun _ z w => ?_⟩
    have hb := ft_in q z
    rw [k0 _ (by omega)] at w
    exact hw x x0 x1 z w.1
  · rw [k0 (11 + k) (by omega)]
    have q := hM k a b
    refine ⟨ft_k (fun j a b => k0 j (by omega)) q.1, fun z => ?_⟩
    exact sfk _ (ft_in q.1 z).1 (q.2 z)
  · rw [k0 9 (by omega), hD.1.2]
    exact cn_eq 24 (fun c a b => by rw [k0 (65 + c) (by omega)])
  · rw [k0 9 (by omega)] at b
    obtain ⟨q0, q1, q2⟩ := hD.2.1 k a b
    rw [k0 (257 + k) (by omega), k0 _ (by omega)]
    exact ⟨q0, q1, sfk _ q0.1 q2⟩
  · rw [k0 9 (by omega)] at c
    rw [k0 (257 + j) (by omega), k0 (257 + k) (by omega)]
    exact hD.2.2.1 j k a b c
  · rw [k0 _ (by omega)] at d
    obtain ⟨k, q0, q1, q2⟩ := hD.2.2.2 c a b d
    exact ⟨k, q0, by rw [k0 9 (by omega)]; exact q1, by rw [k0 _ (by omega)]; exact q2⟩
  · rw [k0 8 (by omega), hG.1.2]
    exact cn_eq 24 (fun c a b => by rw [k0 (41 + c) (by omega)])
  · rw [k0 8 (by omega)] at b
    omega
  · rw [k0 8 (by omega)] at c
    omega
theorem c_cut {v : Int} (hr : hq_ v μ s) (hI : iv_ t s) (hp : s 0 = 1) (h8 : s 8 = 0) : ∃ (μ' : mu_T) (s' : Int → Int), f_X10_beginSweep μ = some μ' ∧ f_X12_cutsWeak (um_ ν 1 s) = some (um_ ν 1 s') ∧ hq_ v μ' s' ∧ iv_ t s' ∧ s' 0 = 2 ∧ s' 1 = 0 ∧ s' 4 = s 4 ∧ s' 7 = s 7 ∧ (∀ k, 12 ≤ k → μ' k = μ k) ∧ ∀ j, 2 ≤ j → j ≠ 6 → (j < 113 ∨ 137 ≤ j) → s' j = s j := by
  obtain ⟨F, hF, hF2⟩ := F_big
  obtain ⟨μ', s', b1, b2, b3, b4, b5, b6, b7⟩ := l_cut (t := t) (ν := ν) (v := v) (J := fun μ57 => wf_ μ57 0 9 2 (fun μ62 => wf_ μ62 0 10 0 (fun μ70 => some μ70))) (J' := fun μ67 => wr_ μ67 1 293 0 2 (fun μ73 => wr_ μ73 1 293 1 0 (fun μ80 => some μ80))) 24 0 (by decide) (by decide) F (by omega) μ s hr hI hp
  refine ⟨st_ (st_ μ' 0 9 2) 0 10 0, ur_ (ur_ s' 0 2) 1 0, ?_, ?_, ?_, sw_iv b4 ((b5 0 (by omega) (by omega)).trans hp) ((b5 8 (by omega) (by omega)).trans h8) b6, by rw [ur_n (by omega), ur_y], ur_y, ?_, ?_, fun k hk => ?_, fun j j2 j6 jj => ?_⟩
  · unfold f_X10_beginSweep
    rw [← hF2, jn_e]
    exact b1
  · unfold f_X12_cutsWeak
    rw [← hF2, jn_e]
    refine b2.trans ?_
    show wr_ (um_ ν 1 s') 1 293 0 2 _ = _
    rw [wr_e (by decide) (by decide), st_um, wr_e (by decide) (by decide), st_um]
  · have w := hr_sc (j := 1) (v := 0) (hr_sc (j := 0) (v := 2) b3 ⟨by omega, by omega, by omega⟩) ⟨by omega, by omega, by omega⟩
    unfold hq_
    rw [ur_co (show (1 : Int) ≠ 7 by decide), ur_co (show (0 : Int) ≠ 7 by decide)]
    exact w
  · rw [ur_n (by omega), ur_n (by omega), b5 4 (by omega) (by omega)]
  · rw [ur_n (by omega), ur_n (by omega), b5 7 (by omega) (by omega)]
  · rw [st_n (by omega), st_n (by omega), b7 k hk]
  · rw [ur_n (by omega), ur_n (by omega), b5 j j6 (by omega)]
end CW
