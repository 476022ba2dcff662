/-! a whole round frees just what was told -/
section QT
variable {μ ν : mu_T} {s x y : Int → Int} {a b c : Int}
theorem jn_v2 {φ ψ β : Type} {F : φ → ψ → Option β} {k : (φ → ψ → Option β) → Option β} {v : φ} {w : ψ} (h : ∀ J, k J = J v w) : jn_ F k = F v w := h F
theorem R_round {t : Nat} (hR : RR_ t μ ν) (ht : t < 5000) (hB : iv_B (ν 1)) : ∃ (r : Int) (μ1 ν1 : mu_T), f_X11_round μ = some (r, μ1) ∧ RR_ (t + 1) μ1 ν1 ∧ (0 ≤ r ∧ rg_ r) ∧ iv_B (ν1 1) ∧ ν1 1 0 = 0 ∧ r = ν1 1 4 - ν 1 4 ∧ (ν 1 0 = 0 → ∃ n, z2_ (ν 1) (ν1 1) n) := by
  obtain ⟨r, μ1, ν1, a1, a2, a3, a4⟩ := p_round t μ ν ht hR
  obtain ⟨ν4, b1, b2, b3⟩ := e_remembers ν
  have n1 : ν4 1 = ν 1 := b2 1 (by decide)
  have n0 : ν4 0 = ν 0 := b2 0 (by decide)
  have hr : hr_ μ (ν 1) := hR.1.1
  have hI : iv_ (60 * (t : Int)) (ν 1) := hR.1.2
  have h4 : hi_ (60 * (t : Int)) μ ν4 := by
    unfold hi_
    rw [n1]
    exact ⟨hr, hI⟩
  have g3 := hR.2.2.1.2.2.1
  have fin : ∀ (μ1 : mu_T) (s1 : Int → Int), hr_ μ1 s1 → iv_ (60 * (t : Int)) s1 → s1 4 = ν 1 4 → iv_B s1 → (ν 1 0 = 0 → z1_ (ν 1) s1) → ∃ s2 : Int → Int, bp_ (f_X12_partsOn (um_ ν4 1 s1) 10000) (fun v29 μ29 => rd_ μ29 1 293 4 (fun v39 => bp_ (f_X12_done μ29 (v39 - ν 1 4)) (fun v42 μ42 => some (v42, μ42)))) = some (0, st_ (um_ ν4 1 s2) 0 15 (s2 4 - ν 1 4)) ∧ s2 0 = 0 ∧ iv_B s2 ∧ 0 ≤ s2 4 - ν 1 4 ∧ (ν 1 0 = 0 → ∃ n, z2_ (ν 1) s2 n) := by
    intro μ1 s1 hr1 hI1 h4 hB1 hz
    obtain ⟨r, μ2, s2, c1, c2, c3, c4, c5, c6, c7, c8, c9⟩ := c_parts (ν := ν4) (t := 60 * (t : Int)) (by omega) (a := 99) (b := 10000) (by decide) (by decide) (Or.inr ⟨by decide, by decide⟩) hr1 hI1
    have z0 : s2 0 = 0 := c9 (Int.le_refl _)
    refine ⟨s2, ?_, z0, ps_B c8 hB1, by omega, fun h0 => ?_⟩
    · rw [c2, bp_some, rd_e (by decide) (by decide), um_self, e_done, bp_some]
    · obtain ⟨-, w | w⟩ := c8 (zz_ (ν 1)) (fun a b hIa ha0 hp hz => zz_p hIa ha0 hp hz) ⟨hB1, Or.inl (hz h0)⟩
      · have := w.1
        omega
      · exact w
  have core : ∃ s2 : Int → Int, f_X12_wholeRound ν4 = some (0, st_ (um_ ν4 1 s2) 0 15 (s2 4 - ν 1 4)) ∧ s2 0 = 0 ∧ iv_B s2 ∧ 0 ≤ s2 4 - ν 1 4 ∧ (ν 1 0 = 0 → ∃ n, z2_ (ν 1) s2 n) := by
    have hP1 := hI.2.1.1
    unfold f_X12_wholeRound
    rw [rd_e (by decide) (by decide), rd_e (by decide) (by decide), jn_e, n1]
    by_cases h0 : ν 1 0 = 0
    · obtain ⟨μ1, s1, d1, d2, d3, d4, d5, d6, d7, d8⟩ := c_begin h4 (by rw [n1]; exact h0)
      rw [n1] at d6 d8
      rw [eq_y h0, d2, bp_some]
      refine fin μ1 s1 d3 d4 d6 (be_B hI h0 d8 hB) (fun _ => z_0 hI hB h0 (fun c c0 c1 h => ?_) d8)
      exact h
    · rw [eq_n ⟨by omega, by omega⟩ (by decide) h0]
      have w := fin μ (ν 1) hr hI rfl hB (fun q => absurd q h0)
      rw [← n1, um_id] at w
      rw [← n1]
      exact w
  obtain ⟨s2, w1, w2, w3, w4, w5⟩ := core
  have k4 : (st_ (um_ ν4 1 s2) 0 15 (s2 4 - ν 1 4)) 0 4 = ν 0 4 := by
    rw [st_s, if_neg (by decide), um_ne (by decide), n0]
  obtain ⟨ν6, y1, y2, -⟩ := e_changed (st_ (um_ ν4 1 s2) 0 15 (s2 4 - ν 1 4)) (s2 4 - ν 1 4) (by rw [k4]; exact g3)
  have e : f_X12_round ν = some (s2 4 - ν 1 4, ν6) := by
    unfold f_X12_round f_X12_ends
    rw [b1, bd_some, w1, bp_some, eq_y rfl, nm_q, st_s, if_pos rfl, y1, bp_some, bp_some]
  rw [e] at a2
  have e1 : s2 4 - ν 1 4 = r := congrArg (fun o : Option (Int × mu_T) => match o with | some p => p.1 | none => 0) a2
  have e2 : ν6 = ν1 := congrArg (fun o : Option (Int × mu_T) => match o with | some p => p.2 | none => ν6) a2
  have e3 : ν1 1 = s2 := by
    rw [← e2, y2 1 (by decide) (by decide), st_n (by decide), um_self]
  subst e3
  exact ⟨r, μ1, ν1, a1, a3, ⟨by omega, a4.2.2⟩, w3, w2, by omega, w5⟩
theorem cn_sp {p q : Int → Bool} : ∀ n : Nat, cn_ (fun k => p k && !q k) n + cn_ (fun k => p k && q k) n = cn_ p n
  | 0 => rfl
  | n + 1 => by
    have w := cn_sp (p := p) (q := q) n
    rw [cn_s, cn_s, cn_s]
    cases p n <;> cases q n <;> simp <;> omega
theorem l_108 {t : Int} {v : Int} {p : Int → Bool} (hr : hr_ μ s) (hI : iv_ t s) (hv : mk_ v p) (hp : ∀ c, 0 ≤ c → c < 24 → p c = true → s (17 + c) ≠ 1) : ∀ (n i : Nat), i + n = 24 → ∀ f : Nat, n < f → f_L_isRound_o132_L108 v μ f 1 i = some (1, μ) := by
  intro n
  induction n with
  | zero =>
    intro i hi f hf
    obtain ⟨f', rfl⟩ : ∃ f', f = f' + 1 := ⟨f - 1, by omega⟩
    have e : i = 24 := by omega
    subst e
    rw [f_L_isRound_o132_L108, lt_n (by decide) (by decide) (by decide)]
    rfl
  | succ n ih =>
    intro i hi f hf
    obtain ⟨f', rfl⟩ : ∃ f', f = f' + 1 := ⟨f - 1, by omega⟩
    have q := ih (i + 1) (by omega) f' (by omega)
    rw [f_L_isRound_o132_L108, lt_y (by omega) (by decide) (by omega), eq_n (by decide) (by decide) (by decide), jn_v (v := ()) (fun J => ?g1)]
    case g1 =>
      rw [mk_bit hv ⟨by omega, by omega⟩]
      by_cases w : p i = true
      · rw [if_pos w, eq_n (by decide) (by decide) (by decide), v_urnOf hr hI ⟨by omega, by omega⟩ (by decide), bd_some, eq_y]
        unfold vu_
        rw [if_neg (fun u => hp i (by omega) (by omega) w u.2)]
      · rw [if_neg w, eq_y rfl]
    exact q
theorem L_isRound {t : Nat} (hR : RR_ t μ ν) (ht : t + 2 < 5000) (hB : iv_B (ν 1)) : ∃ μ1 : mu_T, f_L_isRound_o132 μ = some (1, μ1) := by
  obtain ⟨F1, hF, hF2⟩ := F_big
  have hr : hr_ μ (ν 1) := hR.1.1
  have hI : iv_ (60 * (t : Int)) (ν 1) := hR.1.2
  have hP := hI.2.1.1
  obtain ⟨v, μ1, ν1, t1, e1, e2, e3, e4, e5, e6⟩ : ∃ (v : Int) (μ1 ν1 : mu_T) (t1 : Nat), (∀ J : Int → mu_T → Option (Int × mu_T), lt_ 0 (ν 1 0) (bp_ (f_X11_round μ) (fun v9 μ9 => J v9 μ9)) (J 0 μ) = J v μ1) ∧ RR_ t1 μ1 ν1 ∧ t1 + 1 < 5000 ∧ iv_B (ν1 1) ∧ ν1 1 0 = 0 ∧ (0 ≤ v ∧ rg_ v) := by
    by_cases h0 : 0 < ν 1 0
    · obtain ⟨r, μ1, ν1, a1, a2, a3, a4, a5, -⟩ := R_round hR (by omega) hB
      exact ⟨r, μ1, ν1, t + 1, fun J => by rw [lt_y (by decide) ⟨by omega, by omega⟩ h0, a1, bp_some], a2, by omega, a4, a5, a3⟩
    · exact ⟨0, μ, ν, t, fun J => by rw [lt_n (by decide) ⟨by omega, by omega⟩ h0], hR, by omega, hB, by omega, by decide⟩
  have hr1 : hr_ μ1 (ν1 1) := e2.1.1
  have hI1 : iv_ (60 * (t1 : Int)) (ν1 1) := e2.1.2
  obtain ⟨told, f1, f2⟩ := v_wouldFree hr1 hI1
  obtain ⟨r, μ2, ν2, g1, g2, g3, g4, g5, g6, g7⟩ := R_round e2 (by omega) e4
  have hr2 : hr_ μ2 (ν2 1) := g2.1.1
  have hI2 : iv_ (60 * ((t1 + 1 : Nat) : Int)) (ν2 1) := g2.1.2
  obtain ⟨n, z⟩ := g7 e5
  obtain ⟨z0, z17, z4, zl, z41⟩ := z
  have n24 : n = 24 := by
    rcases z0 with w | w
    · have := w.1
      omega
    · exact w.2
  subst n24
  obtain ⟨y, l1, l2⟩ := v_live hr2 hI2
  obtain ⟨y2, l3, l4⟩ := v_liveAgain hr2 hI2
  have kk : ∀ c, 0 ≤ c → c < 24 → (ν2 1 (17 + c) = 1 ↔ kp9 (ν1 1) c = true) := fun c c0 c1 => by
    constructor
    · intro h
      rw [z17 c c0 c1] at h
      by_cases w : kp9 (ν1 1) c = true
      · exact w
      · rw [if_pos ⟨by omega, Bool.eq_false_iff.mpr w⟩] at h
        omega
    · intro h
      exact (lv_in hI2 g4 ⟨c0, c1⟩ ((zl c c0 c1).trans h)).1
  have ks : ∀ c, 0 ≤ c → c < 24 → kp9 (ν1 1) c = true → ν1 1 (17 + c) = 1 := fun c c0 c1 h => by
    have w := (kk c c0 c1).mpr h
    rw [z17 c c0 c1, if_neg (fun v => by rw [h] at v; exact absurd v.2 (by decide))] at w
    exact w
  have c1 : cn_ (lv9 (ν2 1)) 24 = nu_ (ν2 1) := cn_eq 24 (fun c c0 c1 => (zl c c0 c1).trans (bo_i ⟨fun h => decide_eq_true ((kk c c0 c1).mpr h), fun h => (kk c c0 c1).mp (of_decide_eq_true h)⟩))
  have c2 : cn_ (fun k => decide (ν1 1 (17 + k) = 1) && kp9 (ν1 1) k) 24 = nu_ (ν2 1) := cn_eq 24 (fun c c0 c1 => by
    show (decide (ν1 1 (17 + c) = 1) && kp9 (ν1 1) c) = decide (ν2 1 (17 + c) = 1)
    by_cases w : kp9 (ν1 1) c = true
    · rw [w, decide_eq_true (ks c c0 c1 w), decide_eq_true ((kk c c0 c1).mpr w)]
      rfl
    · rw [Bool.eq_false_iff.mpr w, Bool.and_false, decide_eq_false (fun v => w ((kk c c0 c1).mp v))])
  have c3 : cn_ (fun k => decide (ν1 1 (17 + k) = 1) && !kp9 (ν1 1) k) 24 + cn_ (fun k => decide (ν1 1 (17 + k) = 1) && kp9 (ν1 1) k) 24 = nu_ (ν1 1) := cn_sp (p := fun k => decide (ν1 1 (17 + k) = 1)) 24
  have c4 : co_ (ν2 1) 0 = nu_ (ν2 1) := cn_eq 24 (fun c c0 c1 => by
    show decide (ν2 1 (17 + c) = 1 ∧ ν2 1 (41 + c) = 0) = decide (ν2 1 (17 + c) = 1)
    have w := g4.2.2.2.1 g5 c c0 c1
    by_cases v : ν2 1 (17 + c) = 1
    · rw [decide_eq_true v, decide_eq_true ⟨v, w⟩]
    · rw [decide_eq_false v, decide_eq_false (fun q => v q.1)])
  have h108 := l_108 hr2 hI2 f2 (fun c c0 c1 h => by
    have w := Bool.and_eq_true _ _ ▸ h
    intro v
    have v2 := (kk c c0 c1).mp v
    rw [v2] at w
    exact absurd w.2 (by decide)) 24 0 (by decide) F1 (by omega)
  have hb1 := nu_b (s := ν1 1)
  have hb2 := nu_b (s := ν2 1)
  refine ⟨μ2, ?_⟩
  unfold f_L_isRound_o132
  rw [v_account (a := 1) hr hI (by decide), bd_some, show va_9 (ν 1) 1 = ν 1 0 from rfl]
  rw [jn_v2 e1, f1, bd_some, v_account (a := 3) hr1 hI1 (by decide), bd_some, g1, bp_some, lt_n e6.2 (by decide) (by omega), v_bits f2, bd_some, eq_y (show r = _ by omega)]
  rw [v_account (a := 3) hr2 hI2 (by decide), bd_some, show va_9 (ν2 1) 3 = nu_ (ν2 1) from rfl, show va_9 (ν1 1) 3 = nu_ (ν1 1) from rfl, eq_y (show nu_ (ν2 1) = nu_ (ν1 1) - r by omega)]
  rw [l1, bd_some, l3, bd_some, eq_y (mk_eq l2 l4 (fun _ _ _ => rfl)), bd_some, v_bits l2, bd_some, bd_some, eq_y c1]
  rw [v_account (a := 4) hr2 hI2 (by decide), bd_some, bd_some, show va_9 (ν2 1) 4 = co_ (ν2 1) 0 from rfl, eq_y c4, ← hF2]
  exact h108
end QT
