/-! an urn in a line -/
section TE
variable {μ ν : mu_T}
theorem c_rite {a : Int} (hr3 : μ 3 a = ν 1 (65 + a)) (hT : 0 ≤ ν 1 (65 + a) ∧ ν 1 (65 + a) ≤ 2) (ha : 0 ≤ a ∧ a < 24) (hl : ln_ μ ν) (h6 : ν 0 11 < 59) : ∃ μ' ν', f_X5_writeRite_o148o0g μ a = some μ' ∧ (∀ K : mu_T → Option (Int × mu_T), lt_ 0 (ν 1 (65 + a)) (rd_ ν 1 293 (65 + a) (fun v42 => eq_ v42 1 (bd_ (f_X12_writes ν 33) (fun μ54 => K μ54)) (bd_ (f_X12_writes ν 63) (fun μ54 => K μ54)))) (K ν) = K ν') ∧ ln_ μ' ν' ∧ ν' 0 11 ≤ ν 0 11 + 1 ∧ f9_ μ ν μ' ν' := by
  have eX : f_X5_writeRite_o148o0g μ a = eq_ (ν 1 (65 + a)) 1 (bd_ (f_J4_append_cf468_o149g μ 33) (fun μ29 => some μ29)) (eq_ (ν 1 (65 + a)) 2 (bd_ (f_J4_append_cf468_o149g μ 63) (fun μ47 => some μ47)) (some μ)) := by
    unfold f_X5_writeRite_o148o0g
    rw [e_isCell (by omega), bd_some]
    simp only [jn_e]
    rw [tr_0, if_pos ha, rd_e ha.1 (by omega), hr3]
  rw [eX]
  by_cases h1 : ν 1 (65 + a) = 1
  · obtain ⟨μ', ν', a1, a2, a3, a4, a5⟩ := ln_ch (c := 33) hl (by omega) (by decide)
    refine ⟨μ', ν', by rw [eq_y h1, a1, bd_some], fun K => ?_, a3, by omega, a5⟩
    rw [lt_y (by decide) (by omega) (by omega), rd_e (by omega) (by omega), eq_y h1, a2, bd_some]
  · by_cases h2 : ν 1 (65 + a) = 2
    · obtain ⟨μ', ν', a1, a2, a3, a4, a5⟩ := ln_ch (c := 63) hl (by omega) (by decide)
      refine ⟨μ', ν', by rw [eq_n (by omega) (by decide) h1, eq_y h2, a1, bd_some], fun K => ?_, a3, by omega, a5⟩
      rw [lt_y (by decide) (by omega) (by omega), rd_e (by omega) (by omega), eq_n (by omega) (by decide) h1, a2, bd_some]
    · refine ⟨μ, ν, by rw [eq_n (by omega) (by decide) h1, eq_n (by omega) (by decide) h2], fun K => ?_, hl, by omega, f9_r⟩
      rw [lt_n (by decide) (by omega) (by omega)]
theorem p_tell : pf_tell RR_ := fun t μ ν a _ hR ha => by
  have hS := RR_skip t μ ν hR
  obtain ⟨hr, hI⟩ : hr_ μ (ν 1) ∧ iv_ (60 * ((t + 1 : Nat) : Int)) (ν 1) := hS.1
  obtain ⟨F, hF, hF2⟩ := F_big
  unfold f_X11_tellg f_X12_tell
  rw [← hF2, e_hasUrn hI.1 hr.2.2.2.1 ha, bd_some, tr_0, e_isUrn hI.1 ha, bd_some, tr_0]
  by_cases u : ur9_ (ν 1) a
  · have a01 := u.1
    have ht := iv_ht hI
    obtain ⟨μ1, a1, a2, a3, a4⟩ := ln_0 hS.2.2.2.2.2
    obtain ⟨μ2, ν2, b1, b2, b3, b4, b5⟩ := ln_nu a2 (by omega) a01
    have h2 := f9_t a3 b5
    have n21 : ν2 1 = ν 1 := h2.2.1 1 (by decide) (by decide)
    obtain ⟨μ3, ν3, c1, c2, c3, c4, c5⟩ := c_rite (μ := μ2) (ν := ν2) (a := a) (by rw [h2.1 3 (by decide) (by decide), n21]; exact hr.2.2.1 a a01.1 a01.2) (by rw [n21]; exact (hI.1 a a01.1 a01.2).2.2.1) a01 b3 (by omega)
    have h3 := f9_t h2 c5
    obtain ⟨μ4, ν4, d1, d2, d3, d4, d5⟩ := ln_ch (c := 58) c3 (by omega) (by decide)
    have h4 := f9_t h3 d5
    have m41 : μ4 1 = μ 1 := h4.1 1 (by decide) (by decide)
    have n41 : ν4 1 = ν 1 := h4.2.1 1 (by decide) (by decide)
    obtain ⟨μ5, ν5, e1, e2, e3, e4, e5⟩ := c_tgt (ht (a * 4 + 0) (by omega) (by omega)) d3 (by omega)
    have h5 := f9_t h4 e5
    obtain ⟨F', rfl⟩ : ∃ f', F = f' + 1 := ⟨F - 1, by omega⟩
    -- what lies behind the threads
    obtain ⟨JX, hJX⟩ : ∃ J : mu_T → Option (Int × mu_T), J = fun μ65 => bd_ (f_X11_isCell μ65 a) (fun v66 => jn_ (φ := Int → Option (Int × mu_T)) (fun s0_83 => eq_ s0_83 (-15) (bd_ (f_J4_length_8abf5_o149 μ65) (fun v108 => some (v108, μ65))) (bd_ (f_J4_append_cf468_o149g μ65 126) (fun μ96 => bd_ (f_J4_append_bf812_o149g μ96 s0_83) (fun μ100 => bd_ (f_J4_length_8abf5_o149 μ100) (fun v108 => some (v108, μ100)))))) (fun J83 => eq_ v66 0 (J83 (-15)) (rd_ μ65 2 24 a (fun v77 => J83 v77)))) := ⟨_, rfl⟩
    obtain ⟨JM, hJM⟩ : ∃ J : mu_T → Option (Int × mu_T), J = fun μ124 => rd_ μ124 1 293 (113 + a) (fun v132 => eq_ v132 (-15) (nm_ (μ124 0 11) (fun v139 => some (v139, μ124))) (bd_ (f_X12_writes μ124 126) (fun μ146 => rd_ μ146 1 293 (113 + a) (fun v158 => bd_ (f_X12_writesNumber μ146 v158) (fun μ159 => nm_ (μ159 0 11) (fun v163 => some (v163, μ159))))))) := ⟨_, rfl⟩
    obtain ⟨μ6, ν6, f1, f2, f3, f4, f5⟩ := l_tl (μ := μ) (ν := ν) hr.1 ht a01 (J := JX) (J' := JM) 3 1 (by decide) (by decide) 4 F' (by decide) (by omega) μ5 ν5 h5 e3 (by omega)
    have n61 : ν6 1 = ν 1 := f3.2.1 1 (by decide) (by decide)
    have m62 : μ6 2 = μ 2 := f3.1 2 (by decide) (by decide)
    have ei : (137 + (4 * a)) + 0 = 137 + (a * 4 + 0) := by omega
    have hw := (hI.2.2.2.1 a a01.1 a01.2).1
    have hwo := ft_or hw
    -- the end
    have hend : ∃ r μ7 ν7, JX μ6 = some (r, μ7) ∧ JM ν6 = some (r, ν7) ∧ f9_ μ ν μ7 ν7 ∧ ln_ μ7 ν7 := by
      rw [hJX, hJM]
      show ∃ r μ7 ν7, bd_ (f_X11_isCell μ6 a) _ = some (r, μ7) ∧ rd_ ν6 1 293 (113 + a) _ = some (r, ν7) ∧ _
      rw [e_isCell ha, bd_some]
      simp only [jn_e]
      rw [tr_0, if_pos a01, rd_e a01.1 (by omega), m62, hr.2.1 a a01.1 a01.2, rd_e (by omega) (by omega), n61]
      by_cases hz : ν 1 (113 + a) = -15
      · rw [eq_y hz, eq_y hz, e_ln149 (ln_sb f4), bd_some, nm_q]
        exact ⟨_, _, _, rfl, rfl, f3, f4⟩
      · obtain ⟨μ8, ν8, g1, g2, g3, g4, g5⟩ := ln_ch (c := 126) f4 (by omega) (by decide)
        obtain ⟨μ9, ν9, i1, i2, i3, i4, i5⟩ := ln_nu g3 (by omega) (x := ν 1 (113 + a)) (by omega)
        have n81 : ν8 1 = ν 1 := (g5.2.1 1 (by decide) (by decide)).trans n61
        rw [eq_n (by omega) (by decide) hz, eq_n (by omega) (by decide) hz, g1, bd_some, i1, bd_some, e_ln149 (ln_sb i3), bd_some, g2, bd_some, rd_e (by omega) (by omega), n81, i2, bd_some, nm_q]
        exact ⟨_, _, _, rfl, rfl, f9_t f3 (f9_t g5 i5), i3⟩
    obtain ⟨r, μ7, ν7, k1, k2, k3, k4⟩ := hend
    refine ⟨r, μ7, ν7, ?_, ?_, RR_ln hR k3 k4⟩
    · rw [if_pos u]
      unfold f_X5_writeUrn_o148o0g
      rw [a1, bd_some, b1, bd_some, c1, bd_some, jn_e, ← hJX, f_X5_writeUrn_o148o0g_L25, lt_y (by decide) (by decide) (by decide)]
      simp only [jn_e, nm_q]
      rw [eq_y rfl, d1, bd_some, e_target (s := ν 1) (by rw [m41]; exact hr.1) ha (by decide), bd_some, if_pos ⟨a01, by decide⟩, e1, bd_some]
      have f1' : f_X5_writeUrn_o148o0g_L25 JX a 4 (0 + 1) μ5 = JX μ6 := f1
      rw [f1', k1, bp_some]
    · rw [if_pos u, wf_e, b2, bd_some, rd_e (by omega) (by omega)]
      simp only [jn_e]
      have q := c2 (fun μ57 => bd_ (f_X12_writes μ57 58) (fun μ60 => f_X12_tell_L65 JM a (F' + 1) 0 μ60))
      rw [hJM] at q
      refine q.trans ?_
      rw [← hJM, d2, bd_some, f_X12_tell_L65, lt_y (by decide) (by decide) (by decide)]
      simp only [jn_e, nm_q]
      rw [lt_n (by decide) (by decide) (by decide), e_at, bd_some, rd_e (by omega) (by omega), n41, ei, bd_some, rd_e (by omega) (by omega), n41]
      have e2' := congrArg (fun z => bd_ z (fun m => f_X12_tell_L65 JM a F' (0 + 1) m)) e2
      simp only [bd_eq_, bd_id, bd_some] at e2'
      have f2' : f_X12_tell_L65 JM a F' (0 + 1) ν5 = JM ν6 := f2
      exact e2'.trans (f2'.trans k2)
  · rw [if_neg u, if_neg u]
    exact ⟨_, _, _, rfl, rfl, hS⟩
end TE
