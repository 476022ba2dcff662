/-! an act, with what is done before and behind -/
theorem e_copyAt {μ : mu_T} (h4 : 0 ≤ μ 138 4 ∧ μ 138 4 ≤ 8) : f_X3_copyAtNext μ = some (μ 138 4) := by
  unfold f_X3_copyAtNext
  rw [nm_q, lt_n (by omega) (by decide) (by omega), nm_q, lt_y (by omega) (by decide) (by omega), nm_q, gd_e ⟨by omega, by omega⟩]
theorem e_keepBefore {t : Int} {μ ν : mu_T} (h4 : 0 ≤ μ 138 4 ∧ μ 138 4 ≤ 8) (hv : hv_ t (fun r => μ r) (ν 1)) : ∃ μ', f_X3_keepBefore μ = some μ' ∧ (∀ q : Nat, (q < 12 * ((μ 138 4).toNat + 1) ∨ 12 * ((μ 138 4).toNat + 1) + 12 ≤ q) → μ' q = μ q) ∧ hv_ t (fun r => μ' (12 * ((μ 138 4).toNat + 1) + r)) (ν 1) := by
  unfold f_X3_keepBefore
  rw [e_copyAt h4, bd_some, gd_e ⟨by omega, by omega⟩]
  obtain ⟨μ', a1, a2, a3⟩ := c_copy (s := ν 1) (μ := μ) (i := (μ 138 4).toNat + 1) (j := 0) (by omega)
  have hle := iv_le hv.2
  refine ⟨μ', by rw [a1, bd_some], a2, a3 ?_ hle.1.1 hle.2.1.1, hv.2⟩
  exact hr_x (fun j _ => by rw [Nat.mul_zero, Nat.zero_add]) hv.1
def wX_ (x : mu_T → Option (Int × mu_T)) (μ : mu_T) : Option (Int × mu_T) := bd_ (f_X3_keepBefore μ) (fun μ4 => bp_ (x μ4) (fun v μ5 => bp_ (f_X3_settle μ5 v) (fun v2 μ6 => some (v2, μ6))))
def wM_ (y : mu_T → Option (Int × mu_T)) (ν : mu_T) : Option (Int × mu_T) := bd_ (f_X12_remembers ν) (fun ν1 => bp_ (y ν1) (fun v ν2 => bp_ (f_X12_ends ν2 v) (fun v2 ν3 => some (v2, ν3))))
/-- the history's places: the one that is written is none of those that count -/
theorem hp_ne {nx m : Int} (h : 0 ≤ nx ∧ nx ≤ 8) (hm : 0 ≤ m ∧ m < 8) : hp_ nx m ≠ nx.toNat + 1 ∧ 1 ≤ hp_ nx m ∧ hp_ nx m ≤ 9 := by
  unfold hp_
  omega
theorem hp_next {nx m : Int} (h : 0 ≤ nx ∧ nx ≤ 8) (hm : 0 ≤ m ∧ m < 8) : hp_ (if nx < 8 then nx + 1 else 0) (m + 1) = hp_ nx m ∧ hp_ (if nx < 8 then nx + 1 else 0) 0 = nx.toNat + 1 := by
  unfold hp_
  split <;> omega
theorem wr_op {x y : mu_T → Option (Int × mu_T)} (hop : ∀ (t : Int) (μ ν : mu_T), hi_ t μ ν → op_ t μ ν (x μ) (y ν)) (t : Nat) (μ ν : mu_T) (hR : RR_ t μ ν) : ∃ (r : Int) (μ1 ν1 : mu_T), wX_ x μ = some (r, μ1) ∧ wM_ y ν = some (r, ν1) ∧ RR_ (t + 1) μ1 ν1 ∧ ev_9 ν ν1 r := by
  have hR0 := RR_skip t μ ν hR
  obtain ⟨hv, ⟨s1, s2⟩, ⟨g1, g2, g3, g4⟩, hrs, htx, hln⟩ := id hR
  obtain ⟨μ4, a1, a2, a3⟩ := e_keepBefore g1 hv
  obtain ⟨ν4, b1, b2, b3⟩ := e_remembers ν
  have low : ∀ q : Nat, q < 12 → μ4 q = μ q := fun q hq => a2 q (by omega)
  have high : ∀ q : Nat, 120 ≤ q → μ4 q = μ q := fun q hq => a2 q (by omega)
  have n1 : ν4 1 = ν 1 := b2 1 (by decide)
  have n0 : ν4 0 = ν 0 := b2 0 (by decide)
  have hi4 : hi_ (60 * t) μ4 ν4 := by
    refine ⟨?_, ?_⟩
    · rw [n1]
      exact hr_x (fun j hj => low j hj) hv.1
    · rw [n1]
      exact hv.2
  obtain ⟨r, μ5, c, ν5, x1, x2, x3, x4, x5, x6⟩ := hop (60 * t) μ4 ν4 hi4
  have ht : (60 * (t : Int)) ≤ 60 * ((t + 1 : Nat) : Int) := by omega
  have h138 : μ5 138 = μ 138 := by rw [x3 138 (by decide) (by decide), high 138 (by decide)]
  -- what neither changed
  have keepS : ∀ (μ6 ν6 : mu_T), (∀ q, 120 ≤ q → q < 132 → μ6 q = μ5 q) → μ6 138 3 = μ5 138 3 → ν6 0 5 = ν5 0 5 → ν6 3 = ν5 3 → sd_ (60 * ((t + 1 : Nat) : Int)) μ6 ν6 := fun μ6 ν6 q1 q2 q3 q4 => by
    unfold sd_
    rw [q2, q3, q4, h138, x4 3 (by decide), b2 3 (by decide), x5 5 (by decide) (by decide), n0]
    refine ⟨s1, s2.imp id (fun w => ⟨w.1, ?_⟩)⟩
    have e : (fun r => μ6 (120 + r)) = fun r => if r < 12 then μ (120 + r) else μ6 (120 + r) := by
      funext r
      by_cases hr : r < 12
      · rw [if_pos hr, q1 _ (by omega) (by omega), x3 _ (by omega) (by omega), high _ (by omega)]
      · rw [if_neg hr]
    refine ⟨hr_x (fun j hj => ?_) (hv_mono ht w.2).1, (hv_mono ht w.2).2⟩
    show μ6 (120 + j) = μ (120 + j)
    rw [q1 _ (by omega) (by omega), x3 _ (by omega) (by omega), high _ (by omega)]
  have keepT : ∀ (μ6 ν6 : mu_T), μ6 141 = μ5 141 → μ6 142 = μ5 142 → μ6 149 = μ5 149 → μ6 150 = μ5 150 → ν6 0 10 = ν5 0 10 → ν6 0 11 = ν5 0 11 → ν6 5 = ν5 5 → ν6 7 = ν5 7 → tx_ μ6 ν6 ∧ ln_ μ6 ν6 := fun μ6 ν6 q1 q2 q3 q4 q5 q6 q7 q8 => by
    refine ⟨tx_k ?_ ?_ ?_ ?_ htx, ln_k ?_ ?_ ?_ ?_ hln⟩
    · rw [q1, x3 _ (by decide) (by decide), high _ (by decide)]
    · rw [q2, x3 _ (by decide) (by decide), high _ (by decide)]
    · rw [q5, x5 _ (by decide) (by decide), n0]
    · rw [q7, x4 _ (by decide), b2 _ (by decide)]
    · rw [q3, x3 _ (by decide) (by decide), high _ (by decide)]
    · rw [q4, x3 _ (by decide) (by decide), high _ (by decide)]
    · rw [q6, x5 _ (by decide) (by decide), n0]
    · rw [q8, x4 _ (by decide), b2 _ (by decide)]
  -- the history where nothing is counted
  have keepH : ∀ (μ6 ν6 : mu_T), (∀ q, 12 ≤ q → q < 120 → μ6 q = μ5 q) → μ6 138 = μ5 138 → ν6 0 4 = ν5 0 4 → ν6 4 = ν5 4 → hs_ (60 * ((t + 1 : Nat) : Int)) μ6 ν6 := fun μ6 ν6 q1 q2 q3 q4 => by
    unfold hs_
    rw [q2, q3, q4, h138, x4 4 (by decide), b2 4 (by decide), x5 4 (by decide) (by decide), n0]
    refine ⟨g1, g2, g3, fun m m0 m1 => ?_⟩
    have hp := hp_ne g1 (m := m) ⟨m0, by omega⟩
    have w := hv_mono ht (g4 m m0 m1)
    refine ⟨hr_x (fun j hj => ?_) w.1, w.2⟩
    show μ6 (12 * hp_ (μ 138 4) m + j) = μ (12 * hp_ (μ 138 4) m + j)
    rw [q1 _ (by omega) (by omega), x3 _ (by omega) (by omega), a2 _ (by omega)]
  have key : ∃ (r6 : Int) (μ6 ν6 : mu_T), f_X3_settle μ5 r = some (r6, μ6) ∧ f_X12_ends ν5 c = some (r6, ν6) ∧ RR_ (t + 1) μ6 ν6 ∧ ev_9 ν ν6 r6 := by
    unfold f_X12_ends
    rcases x6 with ⟨c0, rfl, cc, c3, c4, c7⟩ | ⟨c0, rfl, c2, c3, c4, c7⟩ | ⟨rfl, c2, c3, c4, c5, c6, c7⟩
    · refine ⟨r, μ5, ν5, e_settle_r (by omega), ?_, ?_, Or.inl ⟨by omega, by rw [c7, n1]; exact sr_r, by rw [x5 4 (by decide) (by decide), n0], by rw [x4 4 (by decide), b2 4 (by decide)]⟩, fun q => by rw [x5 10 (by decide) (by decide), n0]; exact q, ⟨by omega, by omega⟩⟩
      · rw [eq_n (by omega) (by decide) (by omega), lt_y (by omega) (by decide) c0]
      · refine ⟨⟨c4.1, iv_mono ht c4.2⟩, keepS _ _ (fun _ _ _ => rfl) rfl rfl rfl, keepH _ _ (fun _ _ _ => rfl) rfl rfl rfl, ?_, keepT _ _ rfl rfl rfl rfl rfl rfl rfl rfl⟩
        unfold rs_2
        rw [c3, high 133 (by decide), x5 12 (by decide) (by decide), x5 13 (by decide) (by decide), n0]
        exact hrs
    · refine ⟨-14, μ5, st_ (st_ ν5 0 12 c) 0 13 (ν5 0 14), e_settle_r (by omega), ?_, ?_, Or.inl ⟨by decide, ?_, ?_, ?_⟩, fun q => ?_, by decide⟩
      · rw [eq_n (by omega) (by decide) (by omega), lt_n (by omega) (by decide) (by omega), wf_e, nm_q, wf_e]
        have e : (st_ ν5 0 12 c) 0 14 = ν5 0 14 := by rw [st_s, if_neg (by decide)]
        rw [e]
      · have z : ∀ q, q ≠ 0 → (st_ (st_ ν5 0 12 c) 0 13 (ν5 0 14)) q = ν5 q := fun q hq => by rw [st_n hq, st_n hq]
        have z0 : ∀ j, j ≠ 12 → j ≠ 13 → (st_ (st_ ν5 0 12 c) 0 13 (ν5 0 14)) 0 j = ν5 0 j := fun j h1 h2 => by rw [st_s, if_neg h2, st_s, if_neg h1]
        refine ⟨?_, keepS _ _ (fun _ _ _ => rfl) rfl (z0 5 (by decide) (by decide)) (z 3 (by decide)), keepH _ _ (fun _ _ _ => rfl) rfl (z0 4 (by decide) (by decide)) (z 4 (by decide)), ?_, keepT _ _ rfl rfl rfl rfl (z0 10 (by decide) (by decide)) (z0 11 (by decide) (by decide)) (z 5 (by decide)) (z 7 (by decide))⟩
        · rw [z 1 (by decide)]
          exact ⟨c4.1, iv_mono ht c4.2⟩
        · refine Or.inr ⟨?_, ?_, ?_⟩
          · rw [st_s, if_neg (by decide), st_s, if_pos rfl]
            exact c0
          · rw [st_s, if_neg (by decide), st_s, if_pos rfl]
            exact c2
          · rw [st_s, if_pos rfl]
            exact c3
      · rw [st_n (by decide), st_n (by decide), c7, n1]
        exact sr_r
      · rw [st_s, if_neg (by decide), st_s, if_neg (by decide), x5 4 (by decide) (by decide), n0]
      · rw [st_n (by decide), st_n (by decide), x4 4 (by decide), b2 4 (by decide)]
      · rw [st_s, if_neg (by decide), st_s, if_neg (by decide), x5 10 (by decide) (by decide), n0]
        exact q
    · have k04 : ν5 0 4 = ν 0 4 := by rw [x5 4 (by decide) (by decide), n0]
      obtain ⟨ν6, y1, y2, y3, y4, y5, y6⟩ := e_changed ν5 (ν5 0 15) (by rw [k04]; exact g3)
      have es := e_settle (μ := μ5) c4 (by omega) (by rw [h138]; exact g1) (by rw [h138, g2]; exact g3)
      generalize hμ6 : st_ (st_ μ5 138 4 (if μ5 138 4 < 8 then μ5 138 4 + 1 else 0)) 138 5 (if μ5 138 5 = 8 then 8 else μ5 138 5 + 1) = μ6 at es
      have k64 : ν6 0 4 = if ν 0 4 = 8 then 8 else ν 0 4 + 1 := by rw [y4, k04]
      refine ⟨r, μ6, ν6, es, ?_, ?_, Or.inr ⟨c3, k64, fun j j0 j1 => ?_, fun m m0 m1 j j0 j1 => ?_, fun hB => by rw [y2 1 (by decide) (by decide)]; exact c7 (by rw [n1]; exact hB)⟩, fun q => by rw [y3 10 (by decide), x5 10 (by decide) (by decide), n0]; exact q, c4⟩
      · rw [eq_y rfl, nm_q, y1, bp_some, c2]
      · have z : ∀ q, q ≠ 138 → μ6 q = μ5 q := fun q hq => by rw [← hμ6, st_n hq, st_n hq]
        have z4 : μ6 138 4 = if μ 138 4 < 8 then μ 138 4 + 1 else 0 := by rw [← hμ6, st_s, if_neg (by decide), st_s, if_pos rfl, h138]
        have z5 : μ6 138 5 = if μ 138 5 = 8 then 8 else μ 138 5 + 1 := by rw [← hμ6, st_s, if_pos rfl, h138]
        have z3 : μ6 138 3 = μ5 138 3 := by rw [← hμ6, st_s, if_neg (by decide), st_s, if_neg (by decide)]
        clear hμ6
        have e64 : ν6 0 4 = if ν 0 4 = 8 then 8 else ν 0 4 + 1 := by rw [y4, k04]
        refine ⟨⟨hr_x (fun j hj => z j (by omega)) (by rw [y2 1 (by decide) (by decide)]; exact c6.1), by rw [y2 1 (by decide) (by decide)]; exact iv_mono (by omega) c6.2⟩, keepS _ _ (fun q q0 q1 => z q (by omega)) z3 (y3 5 (by decide)) (y2 3 (by decide) (by decide)), ?_, ?_, keepT _ _ (z 141 (by decide)) (z 142 (by decide)) (z 149 (by decide)) (z 150 (by decide)) (y3 10 (by decide)) (y3 11 (by decide)) (y2 5 (by decide) (by decide)) (y2 7 (by decide) (by decide))⟩
        · unfold hs_
          rw [z4, z5, g2]
          have hnx : 0 ≤ (if μ 138 4 < 8 then μ 138 4 + 1 else 0) ∧ (if μ 138 4 < 8 then μ 138 4 + 1 else 0) ≤ 8 := by split <;> omega
          refine ⟨hnx, e64.symm, by rw [e64]; split <;> omega, fun m m0 m1 => ?_⟩
          by_cases hm : m = 0
          · subst hm
            have hp := (hp_next g1 (m := 0) ⟨by omega, by omega⟩).2
            rw [hp]
            have w := hv_mono ht a3
            refine hv_x (s := ν 1) (fun j j0 j1 => ?_) ⟨hr_x (fun j hj => ?_) w.1, w.2⟩
            · rw [Int.sub_zero, y5 j j0 j1, x4 2 (by decide), b3 j j0 j1]
            · show μ6 (12 * ((μ 138 4).toNat + 1) + j) = μ4 (12 * ((μ 138 4).toNat + 1) + j)
              rw [z _ (by omega), x3 _ (by omega) (by omega)]
          · have hm1 : m - 1 < ν 0 4 := by
              rw [e64] at m1
              split at m1 <;> omega
            have hp := (hp_next g1 (m := m - 1) ⟨by omega, by omega⟩).1
            rw [show m - 1 + 1 = m by omega] at hp
            rw [hp]
            have w := hv_mono ht (g4 (m - 1) (by omega) hm1)
            have hpn := hp_ne g1 (m := m - 1) ⟨by omega, by omega⟩
            refine hv_x (s := fun j => ν 4 (293 * (ν 0 4 - 1 - (m - 1)) + j)) (fun j j0 j1 => ?_) ⟨hr_x (fun j hj => ?_) w.1, w.2⟩
            · rw [y6 (ν6 0 4 - 1 - m) j (by omega) (by omega) j0 j1, x4 4 (by decide), b2 4 (by decide), k04]
              have ei : 293 * (if ν 0 4 = 8 then (ν6 0 4 - 1 - m) + 1 else ν6 0 4 - 1 - m) + j = 293 * (ν 0 4 - 1 - (m - 1)) + j := by
                rw [e64]
                split <;> omega
              rw [← ei]
            · show μ6 (12 * hp_ (μ 138 4) (m - 1) + j) = μ (12 * hp_ (μ 138 4) (m - 1) + j)
              rw [z _ (by omega), x3 _ (by omega) (by omega), a2 _ (by omega)]
        · unfold rs_2
          rw [z 133 (by decide), c5, high 133 (by decide), y3 12 (by decide), y3 13 (by decide), x5 12 (by decide) (by decide), x5 13 (by decide) (by decide), n0]
          exact hrs
      · show ν6 4 (293 * (ν6 0 4 - 1 - 0) + j) = ν 1 j
        rw [Int.sub_zero, y5 j j0 j1, x4 2 (by decide), b3 j j0 j1]
      · show ν6 4 (293 * (ν6 0 4 - 1 - (m + 1)) + j) = ν 4 (293 * (ν 0 4 - 1 - m) + j)
        rw [y6 (ν6 0 4 - 1 - (m + 1)) j (by omega) (by omega) j0 j1, x4 4 (by decide), b2 4 (by decide), k04]
        refine congrArg (ν 4) ?_
        rw [k64]
        split <;> omega
  obtain ⟨r6, μ6, ν6, k1, k2, k3⟩ := key
  refine ⟨r6, μ6, ν6, ?_, ?_, k3⟩
  · unfold wX_
    rw [a1, bd_some, x1, bp_some, k1, bp_some]
  · unfold wM_
    rw [b1, bd_some, x2, bp_some, k2, bp_some]
