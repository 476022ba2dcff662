/-! parts of a round -/
theorem wr_op2 {x y : mu_T → Option (Int × mu_T)} (t : Nat) (hop : ∀ (μ ν : mu_T), hi_ (60 * t) μ ν → op_ (60 * t) μ ν (x μ) (y ν)) (μ ν : mu_T) (hR : RR_ t μ ν) : ∃ (r : Int) (μ1 ν1 : mu_T), wX_ x μ = some (r, μ1) ∧ wM_ y ν = some (r, ν1) ∧ RR_ (t + 1) μ1 ν1 ∧ ev_9 ν ν1 r := by
  have hR0 := RR_skip t μ ν hR
  obtain ⟨hv, ⟨s1, s2⟩, ⟨g1, g2, g3, g4⟩, hrs, htx, hln⟩ := id hR
  obtain ⟨μ4, a1, a2, a3⟩ := e_keepBefore g1 hv
  obtain ⟨ν4, b1, b2, b3⟩ := e_remembers ν
  have low : ∀ q : Nat, q < 12 → μ4 q = μ q := fun q hq => a2 q (by omega)
  have high : ∀ q : Nat, 120 ≤ q → μ4 q = μ q := fun q hq => a2 q (by omega)
  have n1 : ν4 1 = ν 1 := b2 1 (by decide)
  have n0 : ν4 0 = ν 0 := b2 0 (by decide)
  have hi4 : hi_ (60 * t) μ4 ν4 := by
    refine ⟨?_, ?_⟩
    · rw [n1]
      exact hr_x (fun j hj => low j hj) hv.1
    · rw [n1]
      exact hv.2
  obtain ⟨r, μ5, c, ν5, x1, x2, x3, x4, x5, x6⟩ := hop μ4 ν4 hi4
  have ht : (60 * (t : Int)) ≤ 60 * ((t + 1 : Nat) : Int) := by omega
  have h138 : μ5 138 = μ 138 := by rw [x3 138 (by decide) (by decide), high 138 (by decide)]
  -- what neither changed
  have keepS : ∀ (μ6 ν6 : mu_T), (∀ q, 120 ≤ q → q < 132 → μ6 q = μ5 q) → μ6 138 3 = μ5 138 3 → ν6 0 5 = ν5 0 5 → ν6 3 = ν5 3 → sd_ (60 * ((t + 1 : Nat) : Int)) μ6 ν6 := fun μ6 ν6 q1 q2 q3 q4 => by
    unfold sd_
    rw [q2, q3, q4, h138, x4 3 (by decide), b2 3 (by decide), x5 5 (by decide) (by decide), n0]
    refine ⟨s1, s2.imp id (fun w => ⟨w.1, ?_⟩)⟩
    have e : (fun r => μ6 (120 + r)) = fun r => if r < 12 then μ (120 + r) else μ6 (120 + r) := by
      funext r
      by_cases hr : r < 12
      · rw [if_pos hr, q1 _ (by omega) (by omega), x3 _ (by omega) (by omega), high _ (by omega)]
      · rw [if_neg hr]
    refine ⟨hr_x (fun j hj => ?_) (hv_mono ht w.2).1, (hv_mono ht w.2).2⟩
    show μ6 (120 + j) = μ (120 + j)
    rw [q1 _ (by omega) (by omega), x3 _ (by omega) (by omega), high _ (by omega)]
  have keepT : ∀ (μ6 ν6 : mu_T), μ6 141 = μ5 141 → μ6 142 = μ5 142 → μ6 149 = μ5 149 → μ6 150 = μ5 150 → ν6 0 10 = ν5 0 10 → ν6 0 11 = ν5 0 11 → ν6 5 = ν5 5 → ν6 7 = ν5 7 → tx_ μ6 ν6 ∧ ln_ μ6 ν6 := fun μ6 ν6 q1 q2 q3 q4 q5 q6 q7 q8 => by
    refine ⟨tx_k ?_ ?_ ?_ ?_ htx, ln_k ?_ ?_ ?_ ?_ hln⟩
    · rw [q1, x3 _ (by decide) (by decide), high _ (by decide)]
    · rw [q2, x3 _ (by decide) (by decide), high _ (by decide)]
    · rw [q5, x5 _ (by decide) (by decide), n0]
    · rw [q7, x4 _ (by decide), b2 _ (by decide)]
    · rw [q3, x3 _ (by decide) (by decide), high _ (by decide)]
    · rw [q4, x3 _ (by decide) (by decide), high _ (by decide)]
    · rw [q6, x5 _ (by decide) (by decide), n0]
    · rw [q8, x4 _ (by decide), b2 _ (by decide)]
  -- the history where nothing is counted
  have keepH : ∀ (μ6 ν6 : mu_T), (∀ q, 12 ≤ q → q < 120 → μ6 q = μ5 q) → μ6 138 = μ5 138 → ν6 0 4 = ν5 0 4 → ν6 4 = ν5 4 → hs_ (60 * ((t + 1 : Nat) : Int)) μ6 ν6 := fun μ6 ν6 q1 q2 q3 q4 => by
    unfold hs_
    rw [q2, q3, q4, h138, x4 4 (by decide), b2 4 (by decide), x5 4 (by decide) (by decide), n0]
    refine ⟨g1, g2, g3, fun m m0 m1 => ?_⟩
    have hp := hp_ne g1 (m := m) ⟨m0, by omega⟩
    have w := hv_mono ht (g4 m m0 m1)
    refine ⟨hr_x (fun j hj => ?_) w.1, w.2⟩
    show μ6 (12 * hp_ (μ 138 4) m + j) = μ (12 * hp_ (μ 138 4) m + j)
    rw [q1 _ (by omega) (by omega), x3 _ (by omega) (by omega), a2 _ (by omega)]
  have key : ∃ (r6 : Int) (μ6 ν6 : mu_T), f_X3_settle μ5 r = some (r6, μ6) ∧ f_X12_ends ν5 c = some (r6, ν6) ∧ RR_ (t + 1) μ6 ν6 ∧ ev_9 ν ν6 r6 := by
    unfold f_X12_ends
    rcases x6 with ⟨c0, rfl, cc, c3, c4, c7⟩ | ⟨c0, rfl, c2, c3, c4, c7⟩ | ⟨rfl, c2, c3, c4, c5, c6, c7⟩
    · refine ⟨r, μ5, ν5, e_settle_r (by omega), ?_, ?_, Or.inl ⟨by omega, by rw [c7, n1]; exact sr_r, by rw [x5 4 (by decide) (by decide), n0], by rw [x4 4 (by decide), b2 4 (by decide)]⟩, fun q => by rw [x5 10 (by decide) (by decide), n0]; exact q, ⟨by omega, by omega⟩⟩
      · rw [eq_n (by omega) (by decide) (by omega), lt_y (by omega) (by decide) c0]
      · refine ⟨⟨c4.1, iv_mono ht c4.2⟩, keepS _ _ (fun _ _ _ => rfl) rfl rfl rfl, keepH _ _ (fun _ _ _ => rfl) rfl rfl rfl, ?_, keepT _ _ rfl rfl rfl rfl rfl rfl rfl rfl⟩
        unfold rs_2
        rw [c3, high 133 (by decide), x5 12 (by decide) (by decide), x5 13 (by decide) (by decide), n0]
        exact hrs
    · refine ⟨-14, μ5, st_ (st_ ν5 0 12 c) 0 13 (ν5 0 14), e_settle_r (by omega), ?_, ?_, Or.inl ⟨by decide, ?_, ?_, ?_⟩, fun q => ?_, by decide⟩
      · rw [eq_n (by omega) (by decide) (by omega), lt_n (by omega) (by decide) (by omega), wf_e, nm_q, wf_e]
        have e : (st_ ν5 0 12 c) 0 14 = ν5 0 14 := by rw [st_s, if_neg (by decide)]
        rw [e]
      · have z : ∀ q, q ≠ 0 → (st_ (st_ ν5 0 12 c) 0 13 (ν5 0 14)) q = ν5 q := fun q hq => by rw [st_n hq, st_n hq]
        have z0 : ∀ j, j ≠ 12 → j ≠ 13 → (st_ (st_ ν5 0 12 c) 0 13 (ν5 0 14)) 0 j = ν5 0 j := fun j h1 h2 => by rw [st_s, if_neg h2, st_s, if_neg h1]
        refine ⟨?_, keepS _ _ (fun _ _ _ => rfl) rfl (z0 5 (by decide) (by decide)) (z 3 (by decide)), keepH _ _ (fun _ _ _ => rfl) rfl (z0 4 (by decide) (by decide)) (z 4 (by decide)), ?_, keepT _ _ rfl rfl rfl rfl (z0 10 (by decide) (by decide)) (z0 11 (by decide) (by decide)) (z 5 (by decide)) (z 7 (by decide))⟩
        · rw [z 1 (by decide)]
          exact ⟨c4.1, iv_mono ht c4.2⟩
        · refine Or.inr ⟨?_, ?_, ?_⟩
          · rw [st_s, if_neg (by decide), st_s, if_pos rfl]
            exact c0
          · rw [st_s, if_neg (by decide), st_s, if_pos rfl]
            exact c2
          · rw [st_s, if_pos rfl]
            exact c3
      · rw [st_n (by decide), st_n (by decide), c7, n1]
        exact sr_r
      · rw [st_s, if_neg (by decide), st_s, if_neg (by decide), x5 4 (by decide) (by decide), n0]
      · rw [st_n (by decide), st_n (by decide), x4 4 (by decide), b2 4 (by decide)]
      · rw [st_s, if_neg (by decide), st_s, if_neg (by decide), x5 10 (by decide) (by decide), n0]
        exact q
    · have k04 : ν5 0 4 = ν 0 4 := by rw [x5 4 (by decide) (by decide), n0]
      obtain ⟨ν6, y1, y2, y3, y4, y5, y6⟩ := e_changed ν5 (ν5 0 15) (by rw [k04]; exact g3)
      have es := e_settle (μ := μ5) c4 (by omega) (by rw [h138]; exact g1) (by rw [h138, g2]; exact g3)
      generalize hμ6 : st_ (st_ μ5 138 4 (if μ5 138 4 < 8 then μ5 138 4 + 1 else 0)) 138 5 (if μ5 138 5 = 8 then 8 else μ5 138 5 + 1) = μ6 at es
      have k64 : ν6 0 4 = if ν 0 4 = 8 then 8 else ν 0 4 + 1 := by rw [y4, k04]
      refine ⟨r, μ6, ν6, es, ?_, ?_, Or.inr ⟨c3, k64, fun j j0 j1 => ?_, fun m m0 m1 j j0 j1 => ?_, fun hB => by rw [y2 1 (by decide) (by decide)]; exact c7 (by rw [n1]; exact hB)⟩, fun q => by rw [y3 10 (by decide), x5 10 (by decide) (by decide), n0]; exact q, c4⟩
      · rw [eq_y rfl, nm_q, y1, bp_some, c2]
      · have z : ∀ q, q ≠ 138 → μ6 q = μ5 q := fun q hq => by rw [← hμ6, st_n hq, st_n hq]
        have z4 : μ6 138 4 = if μ 138 4 < 8 then μ 138 4 + 1 else 0 := by rw [← hμ6, st_s, if_neg (by decide), st_s, if_pos rfl, h138]
        have z5 : μ6 138 5 = if μ 138 5 = 8 then 8 else μ 138 5 + 1 := by rw [← hμ6, st_s, if_pos rfl, h138]
        have z3 : μ6 138 3 = μ5 138 3 := by rw [← hμ6, st_s, if_neg (by decide), st_s, if_neg (by decide)]
        clear hμ6
        have e64 : ν6 0 4 = if ν 0 4 = 8 then 8 else ν 0 4 + 1 := by rw [y4, k04]
        refine ⟨⟨hr_x (fun j hj => z j (by omega)) (by rw [y2 1 (by decide) (by decide)]; exact c6.1), by rw [y2 1 (by decide) (by decide)]; exact iv_mono (by omega) c6.2⟩, keepS _ _ (fun q q0 q1 => z q (by omega)) z3 (y3 5 (by decide)) (y2 3 (by decide) (by decide)), ?_, ?_, keepT _ _ (z 141 (by decide)) (z 142 (by decide)) (z 149 (by decide)) (z 150 (by decide)) (y3 10 (by decide)) (y3 11 (by decide)) (y2 5 (by decide) (by decide)) (y2 7 (by decide) (by decide))⟩
        · unfold hs_
          rw [z4, z5, g2]
          have hnx : 0 ≤ (if μ 138 4 < 8 then μ 138 4 + 1 else 0) ∧ (if μ 138 4 < 8 then μ 138 4 + 1 else 0) ≤ 8 := by split <;> omega
          refine ⟨hnx, e64.symm, by rw [e64]; split <;> omega, fun m m0 m1 => ?_⟩
          by_cases hm : m = 0
          · subst hm
            have hp := (hp_next g1 (m := 0) ⟨by omega, by omega⟩).2
            rw [hp]
            have w := hv_mono ht a3
            refine hv_x (s := ν 1) (fun j j0 j1 => ?_) ⟨hr_x (fun j hj => ?_) w.1, w.2⟩
            · rw [Int.sub_zero, y5 j j0 j1, x4 2 (by decide), b3 j j0 j1]
            · show μ6 (12 * ((μ 138 4).toNat + 1) + j) = μ4 (12 * ((μ 138 4).toNat + 1) + j)
              rw [z _ (by omega), x3 _ (by omega) (by omega)]
          · have hm1 : m - 1 < ν 0 4 := by
              rw [e64] at m1
              split at m1 <;> omega
            have hp := (hp_next g1 (m := m - 1) ⟨by omega, by omega⟩).1
            rw [show m - 1 + 1 = m by omega] at hp
            rw [hp]
            have w := hv_mono ht (g4 (m - 1) (by omega) hm1)
            have hpn := hp_ne g1 (m := m - 1) ⟨by omega, by omega⟩
            refine hv_x (s := fun j => ν 4 (293 * (ν 0 4 - 1 - (m - 1)) + j)) (fun j j0 j1 => ?_) ⟨hr_x (fun j hj => ?_) w.1, w.2⟩
            · rw [y6 (ν6 0 4 - 1 - m) j (by omega) (by omega) j0 j1, x4 4 (by decide), b2 4 (by decide), k04]
              have ei : 293 * (if ν 0 4 = 8 then (ν6 0 4 - 1 - m) + 1 else ν6 0 4 - 1 - m) + j = 293 * (ν 0 4 - 1 - (m - 1)) + j := by
                rw [e64]
                split <;> omega
              rw [← ei]
            · show μ6 (12 * hp_ (μ 138 4) (m - 1) + j) = μ (12 * hp_ (μ 138 4) (m - 1) + j)
              rw [z _ (by omega), x3 _ (by omega) (by omega), a2 _ (by omega)]
        · unfold rs_2
          rw [z 133 (by decide), c5, high 133 (by decide), y3 12 (by decide), y3 13 (by decide), x5 12 (by decide) (by decide), x5 13 (by decide) (by decide), n0]
          exact hrs
      · show ν6 4 (293 * (ν6 0 4 - 1 - 0) + j) = ν 1 j
        rw [Int.sub_zero, y5 j j0 j1, x4 2 (by decide), b3 j j0 j1]
      · show ν6 4 (293 * (ν6 0 4 - 1 - (m + 1)) + j) = ν 4 (293 * (ν 0 4 - 1 - m) + j)
        rw [y6 (ν6 0 4 - 1 - (m + 1)) j (by omega) (by omega) j0 j1, x4 4 (by decide), b2 4 (by decide), k04]
        refine congrArg (ν 4) ?_
        rw [k64]
        split <;> omega
  obtain ⟨r6, μ6, ν6, k1, k2, k3⟩ := key
  refine ⟨r6, μ6, ν6, ?_, ?_, k3⟩
  · unfold wX_
    rw [a1, bd_some, x1, bp_some, k1, bp_some]
  · unfold wM_
    rw [b1, bd_some, x2, bp_some, k2, bp_some]
section PT
variable {t : Int} {s : Int → Int} {μ ν : mu_T}
theorem hq_sc {j w v : Int} (h : hq_ v μ s) (hj : 0 ≤ j ∧ j ≤ 7 ∧ j ≠ 4) (h7 : j ≠ 7) : hq_ v (st_ μ 0 (9 + j) w) (ur_ s j w) := by
  unfold hq_
  rw [ur_co h7]
  exact hr_sc h hj
theorem hq_wc {c w v : Int} (h : hq_ v μ s) (hc : 0 ≤ c ∧ c < 24) (h1 : s (17 + c) = 1) : hq_ v (st_ μ 4 c w) (ur_ s (41 + c) w) := by
  unfold hq_
  rw [ur_co (show 41 + c ≠ 7 by omega)]
  exact hr_co h hc ((ur_n (by omega)).trans h1)
theorem c_tail {v c : Int} {b : Int → Int} (hc : 0 ≤ c ∧ c < 24) (hq : hq_ v μ b) (h1 : b 1 = c) : ∃ (μ' : mu_T) (s' : Int → Int), wf_ μ 0 10 (c + 1) (fun μ58 => nm_ (μ58 0 10) (fun v65 => lt_ v65 24 (some μ58) (wf_ μ58 0 10 0 (fun μ78 => wf_ μ78 0 9 0 (fun μ86 => nm_ (μ86 0 11) (fun v94 => wf_ μ86 0 11 (v94 + 1) (fun μ99 => some μ99))))))) = some μ' ∧ rd_ (um_ ν 1 b) 1 293 1 (fun v56 => wr_ (um_ ν 1 b) 1 293 1 (v56 + 1) (fun μ59 => rd_ μ59 1 293 1 (fun v65 => lt_ v65 24 (some μ59) (wr_ μ59 1 293 0 0 (fun μ78 => wr_ μ78 1 293 1 0 (fun μ85 => rd_ μ85 1 293 2 (fun v92 => wr_ μ85 1 293 2 (v92 + 1) (fun μ95 => some μ95)))))))) = some (um_ ν 1 s') ∧ hq_ v μ' s' ∧ ((c + 1 < 24 ∧ s' = ur_ b 1 (c + 1)) ∨ (c + 1 = 24 ∧ s' = ur_ (ur_ (ur_ (ur_ b 1 (c + 1)) 1 0) 0 0) 2 (b 2 + 1))) ∧ ∀ k, 12 ≤ k → μ' k = μ k := by
  have hq1 : hq_ v (st_ μ 0 10 (c + 1)) (ur_ b 1 (c + 1)) := hq_sc (j := 1) hq ⟨by omega, by omega, by omega⟩ (by decide)
  have e10 : (st_ μ 0 10 (c + 1)) 0 10 = c + 1 := by rw [st_s, if_pos rfl]
  have eb1 : ur_ b 1 (c + 1) 1 = c + 1 := ur_y
  by_cases h : c + 1 < 24
  · refine ⟨_, _, ?_, ?_, hq1, Or.inl ⟨h, rfl⟩, fun k hk => st_n (by omega)⟩
    · rw [wf_e, nm_q, e10, lt_y (by omega) (by decide) h]
    · rw [rd_e (by decide) (by decide), um_self, h1, wr_e (by decide) (by decide), st_um, rd_e (by decide) (by decide), um_self, eb1, lt_y (by omega) (by decide) h]
  · have hq2 : hq_ v (st_ (st_ μ 0 10 (c + 1)) 0 10 0) (ur_ (ur_ b 1 (c + 1)) 1 0) := hq_sc (j := 1) hq1 ⟨by omega, by omega, by omega⟩ (by decide)
    have hq3 : hq_ v (st_ (st_ (st_ μ 0 10 (c + 1)) 0 10 0) 0 9 0) (ur_ (ur_ (ur_ b 1 (c + 1)) 1 0) 0 0) := hq_sc (j := 0) hq2 ⟨by omega, by omega, by omega⟩ (by decide)
    have hq4 : hq_ v (st_ (st_ (st_ (st_ μ 0 10 (c + 1)) 0 10 0) 0 9 0) 0 11 (b 2 + 1)) (ur_ (ur_ (ur_ (ur_ b 1 (c + 1)) 1 0) 0 0) 2 (b 2 + 1)) := hq_sc (j := 2) hq3 ⟨by omega, by omega, by omega⟩ (by decide)
    have r14 : μ 0 11 = b 2 := (hq_d hq).2.2.2.2.2.2.2.2.2.2.2.1
    have e11 : (st_ (st_ (st_ μ 0 10 (c + 1)) 0 10 0) 0 9 0) 0 11 = b 2 := by rw [st_s, if_neg (by decide), st_s, if_neg (by decide), st_s, if_neg (by decide), r14]
    have e2 : ur_ (ur_ (ur_ b 1 (c + 1)) 0 0) 1 0 2 = b 2 := by rw [ur_n (by decide), ur_n (by decide), ur_n (by decide)]
    refine ⟨_, _, ?_, ?_, hq4, Or.inr ⟨by omega, rfl⟩, fun k hk => by rw [st_n (by omega), st_n (by omega), st_n (by omega), st_n (by omega)]⟩
    · rw [wf_e, nm_q, e10, lt_n (by omega) (by decide) h, wf_e, wf_e, nm_q, e11, wf_e]
    · rw [rd_e (by decide) (by decide), um_self, h1, wr_e (by decide) (by decide), st_um, rd_e (by decide) (by decide), um_self, eb1, lt_n (by omega) (by decide) h, wr_e (by decide) (by decide), st_um, wr_e (by decide) (by decide), st_um, rd_e (by decide) (by decide), um_self, e2, wr_e (by decide) (by decide), st_um, ur_co (show (0 : Int) ≠ 1 by decide)]
/-- the part that sweeps, on both sides -/
theorem c_sweep {v : Int} (ht : t ≤ 1000000) (hr : hq_ v μ s) (hI : iv_ t s) (hp : s 0 = 2) : ∃ (μ' : mu_T) (s' : Int → Int), f_X10_sweepNext μ = some μ' ∧ f_X12_sweeps (um_ ν 1 s) = some (um_ ν 1 s') ∧ hq_ v μ' s' ∧ iv_ t s' ∧ ((s' 0 = 2 ∧ s' 1 = s 1 + 1) ∨ s' 0 = 0) ∧ s' 7 = s 7 ∧ (s 4 ≤ s' 4 ∧ s' 4 ≤ s 4 + 1) ∧ (∀ k, 12 ≤ k → μ' k = μ k) ∧ sS s s' := by
  have hc : 0 ≤ s 1 ∧ s 1 < 24 := hI.2.1.2.1
  have r13 : μ 0 10 = s 1 := (hq_d hr).2.2.2.2.2.2.2.2.2.2.1
  have hTc := hI.1 (s 1) hc.1 hc.2
  -- what lies behind, for both
  have fin : ∀ (μ1 : mu_T) (b : Int → Int), hq_ v μ1 b → b 1 = s 1 → b 2 = s 2 → b 7 = s 7 → (s 4 ≤ b 4 ∧ b 4 ≤ s 4 + 1) → (∀ k, 12 ≤ k → μ1 k = μ k) → zn_ t (ur_ b 1 (s 1 + 1)) → ∃ (μ' : mu_T) (s' : Int → Int), wf_ μ1 0 10 (s 1 + 1) (fun μ58 => nm_ (μ58 0 10) (fun v65 => lt_ v65 24 (some μ58) (wf_ μ58 0 10 0 (fun μ78 => wf_ μ78 0 9 0 (fun μ86 => nm_ (μ86 0 11) (fun v94 => wf_ μ86 0 11 (v94 + 1) (fun μ99 => some μ99))))))) = some μ' ∧ rd_ (um_ ν 1 b) 1 293 1 (fun v56 => wr_ (um_ ν 1 b) 1 293 1 (v56 + 1) (fun μ59 => rd_ μ59 1 293 1 (fun v65 => lt_ v65 24 (some μ59) (wr_ μ59 1 293 0 0 (fun μ78 => wr_ μ78 1 293 1 0 (fun μ85 => rd_ μ85 1 293 2 (fun v92 => wr_ μ85 1 293 2 (v92 + 1) (fun μ95 => some μ95)))))))) = some (um_ ν 1 s') ∧ hq_ v μ' s' ∧ iv_ t s' ∧ ((s' 0 = 2 ∧ s' 1 = s 1 + 1) ∨ s' 0 = 0) ∧ s' 7 = s 7 ∧ (s 4 ≤ s' 4 ∧ s' 4 ≤ s 4 + 1) ∧ (∀ k, 12 ≤ k → μ' k = μ k) ∧ ((s 1 + 1 < 24 ∧ s' 0 = b 0 ∧ s' 1 = s 1 + 1) ∨ (s 1 + 1 = 24 ∧ s' 0 = 0 ∧ s' 1 = 0)) ∧ ∀ j, 3 ≤ j → s' j = b j := by
    intro μ1 b q1 q2 q3 q4 q5 q6 q7
    obtain ⟨μ', s', a1, a2, a3, a4, a5⟩ := c_tail (ν := ν) hc q1 q2
    refine ⟨μ', s', a1, a2, a3, ?_⟩
    have q8 := q7.1
    rcases a4 with ⟨w, rfl⟩ | ⟨w, rfl⟩
    · refine ⟨zn_next q7 (by rw [ur_y]; omega), Or.inl ⟨q8, ur_y⟩, ?_, ?_, fun k hk => (a5 k hk).trans (q6 k hk), Or.inl ⟨w, ur_n (by decide), ur_y⟩, fun j hj => ur_n (by omega)⟩
      · rw [ur_n (by decide), q4]
      · rw [ur_n (by decide)]
        exact q5
    · refine ⟨zn_end q7, Or.inr ?_, ?_, ?_, fun k hk => (a5 k hk).trans (q6 k hk), Or.inr ⟨by omega, by rw [ur_n (by decide), ur_y], by rw [ur_n (by decide), ur_n (by decide), ur_y]⟩, fun j hj => by rw [ur_n (by omega), ur_n (by omega), ur_n (by omega), ur_n (by omega)]⟩
      · rw [ur_n (by decide), ur_y]
      · rw [ur_n (by decide), ur_n (by decide), ur_n (by decide), ur_n (by decide), q4]
      · rw [ur_n (by decide), ur_n (by decide), ur_n (by decide), ur_n (by decide)]
        exact q5
  have hrg : ∀ j, 113 ≤ j → j < 233 → rg_ (s j) := fun j a b => by
    by_cases h : j < 137
    · have q := (ft_r (hI.2.2.2.1 (j - 113) (by omega) (by omega)).1).2
      rw [show 113 + (j - 113) = j by omega] at q
      exact q
    · have q := (ft_r (hI.2.2.1 (j - 137) (by omega) (by omega))).2
      rw [show 137 + (j - 137) = j by omega] at q
      exact q
  have hle := iv_le hI
  unfold f_X10_sweepNext f_X12_sweeps
  rw [nm_q, r13, e_isWhite hI.1 (hq_4 hr) (by omega), bd_some, jn_e, tr_0, rd_e (by decide) (by decide), um_self, rd_e (by omega) (by omega), um_self]
  by_cases w : ur9_ s (s 1) ∧ s (41 + s 1) = 0
  · obtain ⟨z1, z2⟩ := zn_free hI hp rfl w.1 w.2
    have hfm := hq_fm hr hI hc z2
    obtain ⟨μ', s', a1, a2, a3, a4, a5, a6, a7, a8, a9, a10⟩ := fin (fm_ μ (s 1) (s 4)) (fq_ s (s 1)) hfm (fq_low hc (by decide) (by decide) (by decide)) (fq_low hc (by decide) (by decide) (by decide)) (fq_low hc (by decide) (by decide) (by decide)) (by rw [fq_4]; omega) (fun k hk => by unfold fm_; rw [st_n (by omega), st_n (by omega), um_ne (by omega), st_n (by omega), st_n (by omega), st_n (by omega)]) z1
    refine ⟨μ', s', ?_, ?_, a3, a4, a5, a6, a7, a8, hp, fun k k0 k1 => by rw [a10 _ (by omega), fq_low hc (by omega) (by omega) (by omega)], by rw [fq_low hc (by decide) (by decide) (by decide), hp] at a9; exact a9, fun x x0 x1 => by rw [a10 _ (by omega), fq_41 hc ⟨x0, x1⟩], Or.inl ⟨w.1.2, w.2, by rw [a10 4 (by decide), fq_4], fun x x0 x1 => by rw [a10 _ (by omega), fq_17 hc ⟨x0, x1⟩], fun x x0 x1 => by rw [a10 _ (by omega), fq_65 hc ⟨x0, x1⟩], fun k k0 k1 => ?_⟩⟩
    · rw [if_pos w, e_free ht hr hI w.1, bd_some]
      exact a1
    · simp only [jn_e]
      rw [eq_y w.1.2, rd_e (by omega) (by omega), um_self, eq_y w.2, e_frees hc hrg (by omega), bd_some]
      exact a2
    · rw [a10 _ (by omega), fq_137 hc ⟨k0, k1⟩]
      by_cases hk : k / 4 = s 1 ∨ s (137 + k) = s 1
      · rw [if_pos hk, if_pos (by omega)]
      · rw [if_neg hk, if_neg (by omega)]
  · have z1 := zn_white hI hp rfl
    have low : ∀ j, j < 41 → ur_ s (41 + s 1) 0 j = s j := fun j hj => ur_n (by omega)
    have hm : ∃ μ1 : mu_T, (bd_ (f_X2_hasUrn μ (s 1)) (fun v35 => eq_ v35 0 (some μ) (wr_ μ 4 24 (s 1) 0 (fun μ50 => some μ50)))) = some μ1 ∧ hq_ v μ1 (ur_ s (41 + s 1) 0) ∧ ∀ k, 12 ≤ k → μ1 k = μ k := by
      rw [e_hasUrn hI.1 (hq_4 hr) (by omega), bd_some, tr_0]
      by_cases u : ur9_ s (s 1)
      · refine ⟨_, by rw [if_pos u, wr_e hc.1 (by omega)], hq_wc hr hc u.2, fun k hk => st_n (by omega)⟩
      · have e0 : s (41 + s 1) = 0 := (hTc.2.2.2 (by have := hTc.1; omega)).1
        refine ⟨μ, by rw [if_neg u], ?_, fun _ _ => rfl⟩
        have e : ur_ s (41 + s 1) 0 = s := by
          have q := ur_id (s := s) (i := 41 + s 1)
          rw [e0] at q
          exact q
        rw [e]
        exact hr
    obtain ⟨μ1, m1, m2, m3⟩ := hm
    obtain ⟨μ', s', a1, a2, a3, a4, a5, a6, a7, a8, a9, a10⟩ := fin μ1 (ur_ s (41 + s 1) 0) m2 (low 1 (by decide)) (low 2 (by decide)) (low 7 (by decide)) (by rw [low 4 (by decide)]; omega) m3 z1
    have up : ∀ j, j ≠ 41 + s 1 → 3 ≤ j → s' j = s j := fun j h1 h2 => by rw [a10 j h2, ur_n h1]
    refine ⟨μ', s', ?_, ?_, a3, a4, a5, a6, a7, a8, hp, fun k k0 k1 => up _ (by omega) (by omega), by rw [low 0 (by decide), hp] at a9; exact a9, fun x x0 x1 => ?_, Or.inr ⟨fun q => w ⟨⟨hc, q.1⟩, q.2⟩, up _ (by omega) (by omega), fun x x0 x1 => up _ (by omega) (by omega), fun x x0 x1 => up _ (by omega) (by omega), fun k k0 k1 => up _ (by omega) (by omega)⟩⟩
    · rw [if_neg w]
      rw [e_hasUrn hI.1 (hq_4 hr) (by omega), bd_some, tr_0] at m1 ⊢
      by_cases u : ur9_ s (s 1)
      · rw [if_pos u, wr_e hc.1 (by omega)] at m1 ⊢
        rw [Option.some.inj m1]
        exact a1
      · rw [if_neg u] at m1 ⊢
        rw [Option.some.inj m1]
        exact a1
    · simp only [jn_e]
      have a2' : wr_ (um_ ν 1 s) 1 293 (41 + s 1) 0 (fun μ50 => rd_ μ50 1 293 1 (fun v56 => wr_ μ50 1 293 1 (v56 + 1) (fun μ59 => rd_ μ59 1 293 1 (fun v65 => lt_ v65 24 (some μ59) (wr_ μ59 1 293 0 0 (fun μ78 => wr_ μ78 1 293 1 0 (fun μ85 => rd_ μ85 1 293 2 (fun v92 => wr_ μ85 1 293 2 (v92 + 1) (fun μ95 => some μ95))))))))) = some (um_ ν 1 s') := by
        rw [wr_e (by omega) (by omega), st_um]
        exact a2
      by_cases u : s (17 + s 1) = 1
      · rw [eq_y u, rd_e (by omega) (by omega), um_self, eq_n (by omega) (by decide) (fun q => w ⟨⟨hc, u⟩, q⟩)]
        exact a2'
      · rw [eq_n (by omega) (by decide) u]
        exact a2'
    · rw [a10 _ (by omega)]
      simp only [ur_]
      omega
end PT
