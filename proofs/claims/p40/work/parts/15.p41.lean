/-! a text is carried out, on both sides -/
section RU
variable {μ ν : mu_T}
/-- what ends without a change counted -/
theorem RR_u {t : Nat} {μ6 ν6 : mu_T} (hR : RR_ t μ ν) (hv : hv_ (60 * ((t + 1 : Nat) : Int)) (fun r => μ6 r) (ν6 1)) (ho : ∀ q : Nat, 12 ≤ q → q < 132 → (q < 12 * ((μ 138 4).toNat + 1) ∨ 12 * ((μ 138 4).toNat + 1) + 12 ≤ q) → μ6 q = μ q) (h138 : μ6 138 = μ 138) (n3 : ν6 3 = ν 3) (n4 : ν6 4 = ν 4) (n04 : ν6 0 4 = ν 0 4) (n05 : ν6 0 5 = ν 0 5) (hrs : rs_2 μ6 ν6) (htx : tx_ μ6 ν6) (hln : ln_ μ6 ν6) : RR_ (t + 1) μ6 ν6 := by
  obtain ⟨_, ⟨s1, s2⟩, ⟨g1, g2, g3, g4⟩, _, _, _⟩ := id hR
  have ht : (60 * (t : Int)) ≤ 60 * ((t + 1 : Nat) : Int) := by omega
  refine ⟨hv, ?_, ?_, hrs, htx, hln⟩
  · unfold sd_
    rw [h138, n3, n05]
    refine ⟨s1, s2.imp id (fun w => ⟨w.1, ?_⟩)⟩
    refine ⟨hr_x (fun j hj => ?_) (hv_mono ht w.2).1, (hv_mono ht w.2).2⟩
    show μ6 (120 + j) = μ (120 + j)
    exact ho _ (by omega) (by omega) (by omega)
  · unfold hs_
    rw [h138, n4, n04]
    refine ⟨g1, g2, g3, fun m m0 m1 => ?_⟩
    have hp := hp_ne g1 (m := m) ⟨m0, by omega⟩
    have w := hv_mono ht (g4 m m0 m1)
    refine ⟨hr_x (fun j hj => ?_) w.1, w.2⟩
    show μ6 (12 * hp_ (μ 138 4) m + j) = μ (12 * hp_ (μ 138 4) m + j)
    exact ho _ (by omega) (by omega) (by omega)
/-- what ends with a change counted -/
theorem RR_done {t : Nat} {μ5 ν5 : mu_T} {r : Int} (hR : RR_ t μ ν) (c6 : hv_ (60 * ((t + 1 : Nat) : Int)) (fun r => μ5 r) (ν5 1)) (hk : hv_ (60 * t) (fun r => μ5 (12 * ((μ 138 4).toNat + 1) + r)) (ν 1)) (ho : ∀ q : Nat, 12 ≤ q → q < 132 → (q < 12 * ((μ 138 4).toNat + 1) ∨ 12 * ((μ 138 4).toNat + 1) + 12 ≤ q) → μ5 q = μ q) (h138 : μ5 138 = μ 138) (h133 : μ5 133 = μ 133) (n2 : ∀ k, 0 ≤ k → k < 293 → ν5 2 k = ν 1 k) (n3 : ν5 3 = ν 3) (n4 : ν5 4 = ν 4) (n0 : ∀ j, j = 4 ∨ j = 5 ∨ j = 12 ∨ j = 13 → ν5 0 j = ν 0 j) (htx : tx_ μ5 ν5) (hln : ln_ μ5 ν5) (hr : rg_ r) (hr1 : 0 ≤ r) (hB9 : iv_B (ν 1) → iv_B (ν5 1)) (h10 : ν5 0 10 = 0) : ∃ μ6 ν6, f_X3_settle μ5 r = some (r, μ6) ∧ f_X12_changed ν5 r = some (r, ν6) ∧ RR_ (t + 1) μ6 ν6 ∧ ev_9 ν ν6 r ∧ ν6 0 10 = 0 := by
  obtain ⟨_, ⟨s1, s2⟩, ⟨g1, g2, g3, g4⟩, hrs, _, _⟩ := id hR
  have ht : (60 * (t : Int)) ≤ 60 * ((t + 1 : Nat) : Int) := by omega
  have k04 : ν5 0 4 = ν 0 4 := n0 4 (Or.inl rfl)
  obtain ⟨ν6, y1, y2, y3, y4, y5, y6⟩ := e_changed ν5 r (by rw [k04]; exact g3)
  have es := e_settle (μ := μ5) hr (by omega) (by rw [h138]; exact g1) (by rw [h138, g2]; exact g3)
  generalize hμ6 : st_ (st_ μ5 138 4 (if μ5 138 4 < 8 then μ5 138 4 + 1 else 0)) 138 5 (if μ5 138 5 = 8 then 8 else μ5 138 5 + 1) = μ6 at es
  refine ⟨μ6, ν6, es, y1, ?_⟩
  have z : ∀ q, q ≠ 138 → μ6 q = μ5 q := fun q hq => by rw [← hμ6, st_n hq, st_n hq]
  have z4 : μ6 138 4 = if μ 138 4 < 8 then μ 138 4 + 1 else 0 := by rw [← hμ6, st_s, if_neg (by decide), st_s, if_pos rfl, h138]
  have z5 : μ6 138 5 = if μ 138 5 = 8 then 8 else μ 138 5 + 1 := by rw [← hμ6, st_s, if_pos rfl, h138]
  have z3 : μ6 138 3 = μ 138 3 := by rw [← hμ6, st_s, if_neg (by decide), st_s, if_neg (by decide), h138]
  clear hμ6
  have e64 : ν6 0 4 = if ν 0 4 = 8 then 8 else ν 0 4 + 1 := by rw [y4, k04]
  refine ⟨⟨⟨hr_x (fun j hj => z j (by omega)) (by rw [y2 1 (by decide) (by decide)]; exact c6.1), by rw [y2 1 (by decide) (by decide)]; exact c6.2⟩, ?_, ?_, ?_, tx_k (z 141 (by decide)) (z 142 (by decide)) (y3 10 (by decide)) (y2 5 (by decide) (by decide)) htx, ln_k (z 149 (by decide)) (z 150 (by decide)) (y3 11 (by decide)) (y2 7 (by decide) (by decide)) hln⟩, ⟨Or.inr ⟨Or.inr hr1, e64, fun j j0 j1 => ?_, fun m m0 m1 j j0 j1 => ?_, fun hB => by rw [y2 1 (by decide) (by decide)]; exact hB9 hB⟩, fun _ => (y3 10 (by decide)).trans h10, hr⟩, (y3 10 (by decide)).trans h10⟩
  · unfold sd_
    rw [z3, y3 5 (by decide), n0 5 (by decide), y2 3 (by decide) (by decide), n3]
    refine ⟨s1, s2.imp id (fun w => ⟨w.1, ?_⟩)⟩
    refine ⟨hr_x (fun j hj => ?_) (hv_mono ht w.2).1, (hv_mono ht w.2).2⟩
    show μ6 (120 + j) = μ (120 + j)
    rw [z _ (by omega)]
    exact ho _ (by omega) (by omega) (by omega)
  · unfold hs_
    rw [z4, z5, g2]
    have hnx : 0 ≤ (if μ 138 4 < 8 then μ 138 4 + 1 else 0) ∧ (if μ 138 4 < 8 then μ 138 4 + 1 else 0) ≤ 8 := by split <;> omega
    refine ⟨hnx, e64.symm, by rw [e64]; split <;> omega, fun m m0 m1 => ?_⟩
    by_cases hm : m = 0
    · subst hm
      have hp := (hp_next g1 (m := 0) ⟨by omega, by omega⟩).2
      rw [hp]
      have w := hv_mono ht hk
      refine hv_x (s := ν 1) (fun j j0 j1 => ?_) ⟨hr_x (fun j hj => ?_) w.1, w.2⟩
      · rw [Int.sub_zero, y5 j j0 j1, n2 j j0 j1]
      · show μ6 (12 * ((μ 138 4).toNat + 1) + j) = μ5 (12 * ((μ 138 4).toNat + 1) + j)
        rw [z _ (by omega)]
    · have hm1 : m - 1 < ν 0 4 := by
        rw [e64] at m1
        split at m1 <;> omega
      have hp := (hp_next g1 (m := m - 1) ⟨by omega, by omega⟩).1
      rw [show m - 1 + 1 = m by omega] at hp
      rw [hp]
      have w := hv_mono ht (g4 (m - 1) (by omega) hm1)
      have hpn := hp_ne g1 (m := m - 1) ⟨by omega, by omega⟩
      refine hv_x (s := fun j => ν 4 (293 * (ν 0 4 - 1 - (m - 1)) + j)) (fun j j0 j1 => ?_) ⟨hr_x (fun j hj => ?_) w.1, w.2⟩
      · rw [y6 (ν6 0 4 - 1 - m) j (by omega) (by omega) j0 j1, n4, k04]
        have ei : 293 * (if ν 0 4 = 8 then (ν6 0 4 - 1 - m) + 1 else ν6 0 4 - 1 - m) + j = 293 * (ν 0 4 - 1 - (m - 1)) + j := by
          rw [e64]
          split <;> omega
        rw [← ei]
      · show μ6 (12 * hp_ (μ 138 4) (m - 1) + j) = μ (12 * hp_ (μ 138 4) (m - 1) + j)
        rw [z _ (by omega)]
        exact ho _ (by omega) (by omega) (by omega)
  · exact rs_k (by rw [z 133 (by decide), h133]) (by rw [y3 12 (by decide), n0 12 (by decide)]) (by rw [y3 13 (by decide), n0 13 (by decide)]) hrs
  · show ν6 4 (293 * (ν6 0 4 - 1 - 0) + j) = ν 1 j
    rw [Int.sub_zero, y5 j j0 j1, n2 j j0 j1]
  · show ν6 4 (293 * (ν6 0 4 - 1 - (m + 1)) + j) = ν 4 (293 * (ν 0 4 - 1 - m) + j)
    rw [y6 (ν6 0 4 - 1 - (m + 1)) j (by omega) (by omega) j0 j1, n4, k04]
    refine congrArg (ν 4) ?_
    rw [e64]
    split <;> omega
/-- the kept row is taken back -/
theorem l_116 {J : mu_T → Option (Int × mu_T)} : ∀ (n : Nat) (i : Int), 0 ≤ i → i + n = 293 → ∀ f : Nat, n < f → ∀ ν : mu_T, ∃ ν' : mu_T, f_X12_run_L116 J f i ν = J ν' ∧ (∀ q, q ≠ 1 → ν' q = ν q) ∧ (∀ k, i ≤ k → k < 293 → ν' 1 k = ν 2 k) ∧ (∀ k, k < i → ν' 1 k = ν 1 k) := by
  intro n
  induction n with
  | zero =>
    intro i i0 hi f hf ν
    obtain ⟨f', rfl⟩ : ∃ f', f = f' + 1 := ⟨f - 1, by omega⟩
    exact ⟨ν, by rw [f_X12_run_L116, lt_n (by omega) (by decide) (by omega)], fun _ _ => rfl, fun k a b => by omega, fun _ _ => rfl⟩
  | succ n ih =>
    intro i i0 hi f hf ν
    obtain ⟨f', rfl⟩ : ∃ f', f = f' + 1 := ⟨f - 1, by omega⟩
    obtain ⟨ν', a1, a2, a3, a4⟩ := ih (i + 1) (by omega) (by omega) f' (by omega) (st_ ν 1 i (ν 2 i))
    refine ⟨ν', ?_, fun q hq => by rw [a2 q hq, st_n hq], fun k k0 k1 => ?_, fun k k0 => by rw [a4 k (by omega), st_s, if_neg (by omega)]⟩
    · rw [f_X12_run_L116, lt_y (by omega) (by decide) (by omega), rd_e i0 (by omega), wr_e i0 (by omega), nm_q]
      exact a1
    · by_cases hk : k = i
      · rw [hk, a4 i (by omega), st_s, if_pos rfl]
      · rw [a3 k (by omega) k1, st_n (by decide)]
def K159_ (μ159 : mu_T) : Option (Int × mu_T) := nm_ (μ159 0 18) (fun v161 => bp_ (f_X12_changed μ159 v161) (fun v164 μ164 => some (v164, μ164)))
def K141_ (x : Int) (μ141 : mu_T) : Option (Int × mu_T) := bp_ (f_X12_refused μ141 8 x) (fun v146 μ146 => bp_ (f_X12_ends μ146 v146) (fun v149 μ149 => some (v149, μ149)))
def K114_ (F : Nat) (x : Int) (μ114 : mu_T) : Option (Int × mu_T) := f_X12_run_L116 (K141_ x) F 0 μ114
def K69_ (F : Nat) (μ69 : mu_T) : Option (Int × mu_T) := eq_ (μ69 0 19) 0 (lt_ (μ69 0 16) (μ69 0 17) (some (((-1000) - μ69 0 16), μ69)) (f_X12_run_L98 (K114_ F) K159_ F 0 μ69)) (some (((-1000) - μ69 0 16), μ69))
def K82_ (μ82 : mu_T) : Option (Int × mu_T) := nm_ (μ82 140 5) (fun v90 => bp_ (f_X3_settle μ82 v90) (fun v93 μ93 => some (v93, μ93)))
def K58_ (x : Int) (μ58 : mu_T) : Option (Int × mu_T) := bd_ (f_X3_takeBack μ58) (fun μ62 => bp_ (f_X8_refuse μ62 8 x) (fun v72 μ72 => some (v72, μ72)))
theorem e_runX {F : Nat} (hF : F = 20000) {r : Int} {μ2 : mu_T} (d1 : f_X6_read_L9 F 0 0 (st_ μ 140 5 0) = some (r, μ2)) : f_X11_run μ = bd_ (f_X6_clearText μ2) (fun μ12 => eq_ r (-15) (bd_ (f_X3_keepBefore μ12) (fun μ31 => f_X11_run_L36 K58_ K82_ F 0 μ31)) (some (((-1000) - r), μ12))) := by
  unfold f_X11_run f_X6_read
  rw [← hF, wf_e, d1, bp_some]
  rfl
theorem e_runM {F : Nat} (hF : F = 20000) {ν1 : mu_T} (b1 : f_X12_remembers ν = some ν1) : f_X12_run ν = bd_ (f_X12_readsOne (st_ (st_ (st_ (st_ (st_ ν1 0 16 0) 0 17 (ν1 0 10)) 0 10 0) 0 18 0) 0 19 0)) (fun ν2 => f_X12_run_L36 (K69_ F) F ν2) := by
  have e : (st_ ν1 0 16 0) 0 10 = ν1 0 10 := by rw [st_s, if_neg (by decide)]
  unfold f_X12_run
  rw [← hF, b1, bd_some, wf_e, nm_q, e, wf_e, wf_e, wf_e, wz_e (Or.inl rfl)]
  rfl
theorem e_K58 {x : Int} {t : Int} (h4 : 0 ≤ μ 138 4 ∧ μ 138 4 ≤ 8) (hk : hv_ t (fun r => μ (12 * ((μ 138 4).toNat + 1) + r)) (ν 1)) : ∃ μ', K58_ x μ = some (-14, μ') ∧ (∀ q, 12 ≤ q → q ≠ 133 → μ' q = μ q) ∧ hv_ t (fun r => μ' r) (ν 1) ∧ μ' 133 0 = 8 ∧ μ' 133 1 = x := by
  obtain ⟨μ1, a1, a2, a3⟩ := c_copy (s := ν 1) (μ := μ) (i := 0) (j := (μ 138 4).toNat + 1) (by omega)
  have hle := iv_le hk.2
  have h := a3 hk.1 hle.1.1 hle.2.1.1
  refine ⟨st_ (st_ μ1 133 0 8) 133 1 x, ?_, fun q q0 q1 => by rw [st_n q1, st_n q1, a2 q (by omega)], ⟨hr_x (fun j hj => ?_) h, hk.2⟩, by rw [st_s, if_neg (by decide), st_s, if_pos rfl], by rw [st_s, if_pos rfl]⟩
  · unfold K58_ f_X3_takeBack
    rw [e_copyAt h4, bd_some, gd_e ⟨by omega, by omega⟩, a1, bd_some, bd_some, e_refuse, bp_some]
  · show (st_ (st_ μ1 133 0 8) 133 1 x) j = μ1 (12 * 0 + j)
    rw [st_n (by omega), st_n (by omega), Nat.mul_zero, Nat.zero_add]
theorem e_K114 {F : Nat} (hF : 3000 < F) {x : Int} : ∃ ν', K114_ F x ν = some (-14, ν') ∧ (∀ q, 2 ≤ q → ν' q = ν q) ∧ (∀ k, 0 ≤ k → k < 293 → ν' 1 k = ν 2 k) ∧ (∀ j, j ≠ 12 → j ≠ 13 → j ≠ 14 → ν' 0 j = ν 0 j) ∧ ν' 0 12 = 8 ∧ ν' 0 13 = x := by
  obtain ⟨ν1, a1, a2, a3, a4⟩ := l_116 (J := K141_ x) 293 0 (by decide) (by decide) F (by omega) ν
  refine ⟨st_ (st_ (st_ ν1 0 14 x) 0 12 8) 0 13 x, ?_, fun q q0 => by rw [st_n (by omega), st_n (by omega), st_n (by omega), a2 q (by omega)], fun k k0 k1 => by rw [st_n (by decide), st_n (by decide), st_n (by decide), a3 k k0 k1], fun j j0 j1 j2 => by rw [st_s, if_neg j1, st_s, if_neg j0, st_s, if_neg j2, a2 0 (by decide)], by rw [st_s, if_neg (by decide), st_s, if_pos rfl], by rw [st_s, if_pos rfl]⟩
  have e : (st_ (st_ ν1 0 14 x) 0 12 8) 0 14 = x := by rw [st_s, if_neg (by decide), st_s, if_pos rfl]
  unfold K114_
  rw [a1]
  unfold K141_
  rw [e_refused, bp_some]
  unfold f_X12_ends
  rw [eq_n (by decide) (by decide) (by decide), lt_n (by decide) (by decide) (by decide), wf_e, nm_q, e, wf_e, bp_some]
theorem p_run : pf_run RR_ := fun t μ ν ht hR => by
  have hS := RR_skip t μ ν hR
  obtain ⟨hv, hsd, ⟨g1, g2, g3, g4⟩, hrs, htx, hln⟩ := id hR
  have hsb := tx_sb htx
  obtain ⟨x1, x2, x3, x4, x5, x6⟩ := id htx
  obtain ⟨F, hF, hF2⟩ := F_big
  obtain ⟨ν1, b1, b2, b3⟩ := e_remembers ν
  have n0 : ν1 0 = ν 0 := b2 0 (by decide)
  have eM := e_runM hF2 b1
  generalize hνr : st_ (st_ (st_ (st_ (st_ ν1 0 16 0) 0 17 (ν1 0 10)) 0 10 0) 0 18 0) 0 19 0 = νr at eM
  have zq : ∀ q, q ≠ 0 → νr q = ν1 q := fun q hq => by rw [← hνr, st_n hq, st_n hq, st_n hq, st_n hq, st_n hq]
  have zj : ∀ j, j ≠ 10 → j < 16 → νr 0 j = ν 0 j := fun j h1 h2 => by rw [← hνr, st_s, if_neg (by omega), st_s, if_neg (by omega), st_s, if_neg h1, st_s, if_neg (by omega), st_s, if_neg (by omega), n0]
  have z10 : νr 0 10 = 0 := by rw [← hνr, st_s, if_neg (by decide), st_s, if_neg (by decide), st_s, if_pos rfl]
  have z16 : νr 0 16 = 0 := by rw [← hνr, st_s, if_neg (by decide), st_s, if_neg (by decide), st_s, if_neg (by decide), st_s, if_neg (by decide), st_s, if_pos rfl]
  have z17 : νr 0 17 = ν 0 10 := by rw [← hνr, st_s, if_neg (by decide), st_s, if_neg (by decide), st_s, if_neg (by decide), st_s, if_pos rfl, n0]
  have z18 : νr 0 18 = 0 := by rw [← hνr, st_s, if_neg (by decide), st_s, if_pos rfl]
  have z19 : νr 0 19 = 0 := by rw [← hνr, st_s, if_pos rfl]
  clear hνr
  have hx0 : xt_ (st_ μ 140 5 0) (ν 5) (ν 0 10) := xt_k (by rw [st_n (by decide)]) (by rw [st_n (by decide)]) ⟨hsb, x5, x3.2.1⟩
  obtain ⟨r, μ2, ν2, d1, d2, d3, d4, d5⟩ := c_read (J := K69_ F) (L := ν 0 10) (T := ν 5) ⟨x3.1, x3.2.1⟩ (fun k k0 k1 => (x5 k k0 k1).2) 61 0 0 (by omega) ⟨by omega, x3.1⟩ ⟨by omega, by omega⟩ F F (by omega) (by omega) (st_ μ 140 5 0) νr hx0 (by rw [st_s, if_pos rfl]) (by rw [zq 5 (by decide), b2 5 (by decide)]) z17 z18 z16 z19 (fun i i0 i1 => by omega)
  have eX := e_runX hF2 d1
  rw [eX, eM, d2]
  have m2 : ∀ q, q ≠ 140 → (q < 143 ∨ 147 < q) → μ2 q = μ q := fun q q0 q1 => by rw [d3 q q0 q1, st_n q0]
  have hsb2 : sb_ μ2 141 142 (ν 0 10) := by
    unfold sb_ bl_
    rw [m2 141 (by decide) (by decide), m2 142 (by decide) (by decide)]
    exact hsb
  obtain ⟨μ3, e1, e2, e3⟩ := e_sl141 hsb2
  have ec : f_X6_clearText μ2 = some μ3 := by
    unfold f_X6_clearText
    rw [e1, bd_some]
  have m3 : ∀ q, q ≠ 140 → q ≠ 141 → (q < 143 ∨ 147 < q) → μ3 q = μ q := fun q q0 q1 q2 => by rw [e2 q q1, m2 q q0 q2]
  have v17 : ν2 0 17 = ν 0 10 := (d4.2 17 (by decide) (by decide) (by decide)).trans z17
  have v10 : ν2 0 10 = 0 := (d4.2 10 (by decide) (by decide) (by decide)).trans z10
  have vj : ∀ j, j ≠ 10 → j < 16 → ν2 0 j = ν 0 j := fun j h1 h2 => by rw [d4.2 j (by omega) (by omega) (by omega), zj j h1 h2]
  have vq : ∀ q, q ≠ 0 → q ≠ 2 → q ≠ 6 → ν2 q = ν q := fun q h1 h2 h3 => by rw [d4.1 q h1 h3, zq q h1, b2 q h2]
  have v2 : ∀ k, 0 ≤ k → k < 293 → ν2 2 k = ν 1 k := fun k k0 k1 => by rw [d4.1 2 (by decide) (by decide), zq 2 (by decide), b3 k k0 k1]
  rw [ec, bd_some]
  -- the texts behind
  have htxl : ∀ μ6 ν6 : mu_T, μ6 141 = μ3 141 → μ6 142 = μ3 142 → ν6 0 10 = 0 → tx_ μ6 ν6 := fun μ6 ν6 w1 w2 w3 => by
    refine tx_of ?_ (by omega) (fun k k0 k1 => by omega)
    rw [w3]
    unfold sb_ bl_
    rw [w1, w2]
    exact e3
  have hhv : hv_ (60 * ((t + 1 : Nat) : Int)) (fun r => μ r) (ν 1) := hS.1
  rcases d5 with ⟨rfl, w19, w16, c, hc, c5, c18, cor⟩ | ⟨hr, w16, w19⟩
  · rw [eq_y rfl]
    have h138 : μ3 138 = μ 138 := m3 138 (by decide) (by decide) (by decide)
    obtain ⟨μ4, k1, k2, k3⟩ := e_keepBefore (μ := μ3) (ν := ν) (t := 60 * t) (by rw [h138]; exact g1) ⟨hr_x (fun j hj => m3 j (by omega) (by omega) (by omega)) hv.1, hv.2⟩
    rw [h138] at k2 k3
    rw [k1, bd_some]
    have h4 : hi_ (60 * t) μ4 ν2 := by
      unfold hi_
      rw [vq 1 (by decide) (by decide) (by decide)]
      exact ⟨hr_x (fun j hj => by rw [k2 j (by omega), m3 j (by omega) (by omega) (by omega)]) hv.1, hv.2⟩
    have eK : K69_ F ν2 = f_X12_run_L98 (K114_ F) K159_ F 0 ν2 := by
      unfold K69_
      rw [eq_y w19, lt_n (by omega) (by omega) (by omega)]
    rw [eK]
    have hi4 : ∀ q, 120 ≤ q → μ4 q = μ3 q := fun q hq => k2 q (by omega)
    obtain ⟨μ5, ν5, y1, y2, y3, y4⟩ := l_exec (J58 := K58_) (J82 := K82_) (J114 := K114_ F) (J159 := K159_) (c := c) ⟨by omega, hc.2⟩ c.toNat 0 (60 * t) (by omega) (by omega) (by omega) F F (by omega) (by omega) μ4 ν2 h4 (by rw [hi4 140 (by decide), e2 140 (by decide)]; exact c5) c18 (fun i i0 i1 => or9_k (by rw [hi4 143 (by decide), e2 143 (by decide)]) (by rw [hi4 144 (by decide), e2 144 (by decide)]) (by rw [hi4 145 (by decide), e2 145 (by decide)]) (by rw [hi4 146 (by decide), e2 146 (by decide)]) (fun k _ _ => rfl) (cor i i0 i1))
    have h5138 : μ5 138 = μ 138 := by rw [y1 138 (by decide) (by decide), hi4 138 (by decide), h138]
    have h5133 : μ4 133 = μ 133 := by rw [hi4 133 (by decide), m3 133 (by decide) (by decide) (by decide)]
    have ho5 : ∀ q : Nat, 12 ≤ q → q < 132 → (q < 12 * ((μ 138 4).toNat + 1) ∨ 12 * ((μ 138 4).toNat + 1) + 12 ≤ q) → μ5 q = μ q := fun q q0 q1 q2 => by rw [y1 q q0 (by omega), k2 q q2, m3 q (by omega) (by omega) (by omega)]
    have hk5 : hv_ (60 * t) (fun r => μ5 (12 * ((μ 138 4).toNat + 1) + r)) (ν 1) := by
      refine ⟨hr_x (fun j hj => ?_) k3.1, k3.2⟩
      show μ5 (12 * ((μ 138 4).toNat + 1) + j) = μ4 (12 * ((μ 138 4).toNat + 1) + j)
      rw [y1 _ (by omega) (by omega)]
    have htx5 : tx_ μ5 ν5 := htxl μ5 ν5 (by rw [y1 141 (by decide) (by decide), hi4 141 (by decide)]) (by rw [y1 142 (by decide) (by decide), hi4 142 (by decide)]) (by rw [y3 10 (by decide) (by decide)]; exact v10)
    have hln5 : ln_ μ5 ν5 := ln_k (by rw [y1 149 (by decide) (by decide), hi4 149 (by decide), m3 149 (by decide) (by decide) (by decide)]) (by rw [y1 150 (by decide) (by decide), hi4 150 (by decide), m3 150 (by decide) (by decide) (by decide)]) (by rw [y3 11 (by decide) (by decide), vj 11 (by decide) (by decide)]) (by rw [y2 7 (by decide), vq 7 (by decide) (by decide) (by decide)]) hln
    have n3 : ν5 3 = ν 3 := by rw [y2 3 (by decide), vq 3 (by decide) (by decide) (by decide)]
    have n4 : ν5 4 = ν 4 := by rw [y2 4 (by decide), vq 4 (by decide) (by decide) (by decide)]
    have n5j : ∀ j, j = 4 ∨ j = 5 ∨ j = 12 ∨ j = 13 → ν5 0 j = ν 0 j := fun j hj => by rw [y3 j (by omega) (by omega), vj j (by omega) (by omega)]
    have n52 : ∀ k, 0 ≤ k → k < 293 → ν5 2 k = ν 1 k := fun k k0 k1 => by rw [y2 2 (by decide), v2 k k0 k1]
    rcases y4 with ⟨u1, u2, u3, u4⟩ | ⟨y, hy, u1, u2⟩
    · have c6 : hv_ (60 * ((t + 1 : Nat) : Int)) (fun r => μ5 r) (ν5 1) := ⟨u3.1.1, iv_mono (by omega) u3.1.2⟩
      obtain ⟨μ6, ν6, q1, q2, q3⟩ := RR_done (r := c) hR c6 hk5 ho5 h5138 (u4.trans h5133) n52 n3 n4 n5j htx5 hln5 (by omega) (by omega) (fun hB => u3.2 (by rw [vq 1 (by decide) (by decide) (by decide)]; exact hB)) ((y3 10 (by decide) (by decide)).trans v10)
      have c55 : μ5 140 5 = c := by rw [y1 140 (by decide) (by decide), hi4 140 (by decide), e2 140 (by decide)]; exact c5
      have c518 : ν5 0 18 = c := by rw [y3 18 (by decide) (by decide)]; exact c18
      refine ⟨c, μ6, ν6, ?_, ?_, q3⟩
      · rw [u1]
        unfold K82_
        rw [nm_q, c55, q1, bp_some]
      · rw [u2]
        unfold K159_
        rw [nm_q, c518, q2, bp_some]
    · obtain ⟨μ6, q1, q2, q3, q4, q5⟩ := e_K58 (μ := μ5) (ν := ν) (x := y) (t := 60 * t) (by rw [h5138]; exact g1) (by rw [h5138]; exact hk5)
      obtain ⟨ν6, s1, s2, s3, s4, s5, s6⟩ := e_K114 (ν := ν5) hF (x := y)
      refine ⟨-14, μ6, ν6, u1.trans q1, u2.trans s1, ?_, ⟨Or.inl ⟨by decide, fun j j0 j1 => by rw [s3 j j0 j1, n52 j j0 j1], by rw [s4 4 (by decide) (by decide) (by decide), n5j 4 (Or.inl rfl)], by rw [s2 4 (by decide), n4]⟩, fun _ => by rw [s4 10 (by decide) (by decide) (by decide), y3 10 (by decide) (by decide), v10], by decide⟩, by rw [s4 10 (by decide) (by decide) (by decide), y3 10 (by decide) (by decide), v10]⟩
      have hv6 : hv_ (60 * ((t + 1 : Nat) : Int)) (fun r => μ6 r) (ν6 1) := hv_x (s := ν 1) (fun j j0 j1 => by rw [s3 j j0 j1, n52 j j0 j1]) (hv_mono (by omega) q3)
      refine RR_u hR hv6 (fun q a b d => by rw [q2 q a (by omega), ho5 q a b d]) (by rw [q2 138 (by decide) (by decide), h5138]) (by rw [s2 3 (by decide), n3]) (by rw [s2 4 (by decide), n4]) (by rw [s4 4 (by decide) (by decide) (by decide), n5j 4 (Or.inl rfl)]) (by rw [s4 5 (by decide) (by decide) (by decide), n5j 5 (Or.inr (Or.inl rfl))]) (Or.inr ⟨by omega, by omega, by omega⟩) ?_ ?_
      · exact tx_k (q2 141 (by decide) (by decide)) (q2 142 (by decide) (by decide)) (s4 10 (by decide) (by decide) (by decide)) (s2 5 (by decide)) htx5
      · exact ln_k (q2 149 (by decide) (by decide)) (q2 150 (by decide) (by decide)) (s4 11 (by decide) (by decide) (by decide)) (s2 7 (by decide)) hln5
  · rw [eq_n (by omega) (by decide) (by omega)]
    have eK : K69_ F ν2 = some (-1000 - r, ν2) := by
      unfold K69_
      rw [← w16]
      rcases w19 with w | ⟨w1, w2⟩
      · rw [w, eq_n (by decide) (by decide) (by decide)]
      · rw [eq_y w1, lt_y (by omega) (by omega) (by omega)]
    refine ⟨-1000 - r, μ3, ν2, rfl, eK, ?_, ⟨Or.inl ⟨by omega, by rw [vq 1 (by decide) (by decide) (by decide)]; exact sr_r, vj 4 (by decide) (by decide), vq 4 (by decide) (by decide) (by decide)⟩, fun _ => v10, ⟨by omega, by omega⟩⟩, v10⟩
    refine RR_u hR ?_ (fun q q0 q1 _ => m3 q (by omega) (by omega) (by omega)) (m3 138 (by decide) (by decide) (by decide)) (vq 3 (by decide) (by decide) (by decide)) (vq 4 (by decide) (by decide) (by decide)) (vj 4 (by decide) (by decide)) (vj 5 (by decide) (by decide)) (rs_k (m3 133 (by decide) (by decide) (by decide)) (vj 12 (by decide) (by decide)) (vj 13 (by decide) (by decide)) hrs) (htxl μ3 ν2 rfl rfl v10) (ln_k (m3 149 (by decide) (by decide) (by decide)) (m3 150 (by decide) (by decide) (by decide)) (vj 11 (by decide) (by decide)) (vq 7 (by decide) (by decide) (by decide)) hln)
    rw [vq 1 (by decide) (by decide) (by decide)]
    exact ⟨hr_x (fun j hj => m3 j (by omega) (by omega) (by omega)) hhv.1, hhv.2⟩
end RU
