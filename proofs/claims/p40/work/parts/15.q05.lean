/-! each urn is as it ought to be -/
section QU2
variable {t : Int} {μ ν : mu_T} {s : Int → Int} {a c : Int}
theorem jn_v {φ β : Type} {F : φ → Option β} {k : (φ → Option β) → Option β} {v : φ} (h : ∀ J, k J = J v) : jn_ F k = F v := h F
theorem eq_01 {α : Type} {a b : Int} (ha : rg_ a) (hb : rg_ b) (J : Int → Option α) {x y : Int} : eq_ a b (J x) (J y) = J (if a = b then x else y) := by
  by_cases h : a = b
  · rw [eq_y h, if_pos h]
  · rw [eq_n ha hb h, if_neg h]
def x1_9 (s : Int → Int) (c : Int) (n : Nat) : Int := if ex_ (fun i => decide (s (137 + (c * 4 + i)) = c)) n = true then 1 else -15
theorem l_297 (hr : hr_ μ s) (hI : iv_ t s) (hB : iv_B s) (u : ur9_ s c) {L9 d9 : Int} (hL : (L9 = 0) ∨ (L9 = 1 ∧ ∃ d : Nat, d9 = d ∧ d < 24 ∧ rq_ (rt_ s (-15)) (ej_ s) d c = true)) {J : Int → Option (Int × mu_T)} : ∀ (n i : Nat), i + n = 4 → ∀ f : Nat, n < f → f_L_isWhole_o132_L297 J (s 0) c (s (41 + c)) L9 d9 μ f (x1_9 s c i) i = J (x1_9 s c 4) := by
  intro n
  induction n with
  | zero =>
    intro i hi f hf
    obtain ⟨f', rfl⟩ : ∃ f', f = f' + 1 := ⟨f - 1, by omega⟩
    have e : i = 4 := by omega
    subst e
    rw [f_L_isWhole_o132_L297, lt_n (by decide) (by decide) (by decide)]
  | succ n ih =>
    intro i hi f hf
    obtain ⟨f', rfl⟩ : ∃ f', f = f' + 1 := ⟨f - 1, by omega⟩
    have hc := u.1
    have hi4 : 0 ≤ (i : Int) ∧ (i : Int) < 4 := ⟨by omega, by omega⟩
    have q := th_or hI hc hi4
    have hrg : rg_ (s (137 + (c * 4 + i))) := by
      rcases q with q | q
      · rw [q]
        decide
      · have := q.1
        exact ⟨by omega, by omega⟩
    have ev : vth9_ s c i = s (137 + (c * 4 + i)) := if_pos u
    have ex0 : x1_9 s c i = 1 ∨ x1_9 s c i = -15 := by
      unfold x1_9
      split
      · exact Or.inl rfl
      · exact Or.inr rfl
    have ex1 : (if s (137 + (c * 4 + i)) = c then 1 else x1_9 s c i) = x1_9 s c (i + 1) := by
      unfold x1_9
      rw [ex_s]
      by_cases h : s (137 + (c * 4 + i)) = c
      · rw [if_pos h, decide_eq_true h, Bool.or_true, if_pos rfl]
      · rw [if_neg h, decide_eq_false h, Bool.or_false]
    have hp := hI.2.1.1
    have hcol := (hI.1 c hc.1 hc.2).2.1
    rw [f_L_isWhole_o132_L297, lt_y (by omega) (by decide) (by omega), v_threadOf hr hI ⟨by omega, by omega⟩ hi4, bd_some, ev]
    rw [jn_v (v := x1_9 s c (i + 1)) (fun J => ?h0), jn_v (v := ()) (fun J => ?h1), jn_v (v := ()) (fun J => ?h2), eq_n (by decide) (by decide) (by decide), eq_n (by decide) (by decide) (by decide), jn_v (v := ()) (fun J => ?h3), nm_q]
    case h0 =>
      rw [← ex1]
      exact eq_01 hrg ⟨by omega, by omega⟩ J
    case h3 =>
      by_cases h1 : s 0 = 1
      · rw [eq_y h1]
        by_cases h2 : s (41 + c) = 2
        · rw [eq_y h2]
          rcases q with q | ⟨q, q2⟩
          · rw [q, lt_y (by decide) (by decide) (by decide)]
          · have w := hB.2.1 h1 (c * 4 + i) (by omega) (by omega) (by rw [show (c * 4 + (i : Int)) / 4 = c by omega]; exact h2) (by omega)
            have wc := (hI.1 _ q.1 q.2).2.1
            rw [lt_n hrg (by decide) (by omega), v_urnOf hr hI hrg (by decide), bd_some]
            have e9 : vu_ s (s (137 + (c * 4 + i))) 0 = s (41 + s (137 + (c * 4 + i))) := by
              unfold vu_
              rw [if_pos ⟨q, q2⟩, if_pos rfl]
            rw [e9, eq_n (by omega) (by decide) w]
        · rw [eq_n (by omega) (by decide) h2]
      · rw [eq_n (by omega) (by decide) h1]
    case h2 =>
      rcases q with q | ⟨q, q2⟩
      · rw [eq_y q]
      · have wc := (hI.1 _ q.1 q.2).2.1
        have e9 : vu_ s (s (137 + (c * 4 + i))) 0 = s (41 + s (137 + (c * 4 + i))) := by
          unfold vu_
          rw [if_pos ⟨q, q2⟩, if_pos rfl]
        rw [eq_n hrg (by decide) (by omega), v_urnOf hr hI hrg (by decide), bd_some, e9, lt_n (by omega) (by decide) (by omega)]
    case h1 =>
      rcases q with q | ⟨q, q2⟩
      · rw [q, lt_y (by decide) (by decide) (by decide)]
      · rw [lt_n hrg (by decide) (by omega)]
        rcases hL with hL | ⟨hL, d, hd, hd2, hd3⟩
        · rw [eq_y hL]
        · obtain ⟨dp, g1, g2, g3, g4⟩ := dp_near hr hI u hi4 hd3 (by omega)
          rw [eq_n (by omega) (by decide) (by omega), g1, bd_some, lt_n (by omega) (by decide) (by omega), bd_some, lt_n (by omega) (by omega) (by omega)]
    exact ih (i + 1) (by omega) f' (by omega)
/-- the accumulators behind the first i cells -/
def ac9_ (s : Int → Int) (i : Nat) (x1 x2 x3 x5 : Int) (μ : mu_T) : Prop := x1 = cn_ (fun c => decide (s (17 + c) = 1)) i ∧ x2 = sm_ (fun c => if s (17 + c) = 1 then hd_ s c else 0) i ∧ x3 = sm_ (fun c => if s (17 + c) = 1 then hl_ s c else 0) i ∧ mk_ x5 (fun k => ex_ (fun j => decide (s (17 + j) = 1) && decide (k = j)) i) ∧ ∀ j : Int, 0 ≤ j → j ≤ 2 → μ 151 j = cn_ (fun c => decide (s (17 + c) = 1 ∧ s (41 + c) = j)) i
theorem l_70 (hI : iv_ t s) (hB : iv_B s) {J : Int → Int → Int → Int → mu_T → Option (Int × mu_T)} {y : Int} (hy : mk_ y (lv9 s)) : ∀ (n i : Nat), i + n = 24 → ∀ f : Nat, n < f → ∀ (x1 x2 x3 x5 : Int) (μ : mu_T), hr_ μ s → ac9_ s i x1 x2 x3 x5 μ → ∃ (x1' x2' x3' x5' : Int) (μ' : mu_T), f_L_isWhole_o132_L70 J y (s 0) f x1 x2 x3 x5 i μ = J x1' x2' x3' x5' μ' ∧ ac9_ s 24 x1' x2' x3' x5' μ' ∧ ∀ q, q ≠ 151 → μ' q = μ q := by
  obtain ⟨F, hF, hF2⟩ := F_big
  intro n
  induction n with
  | zero =>
    intro i hi f hf x1 x2 x3 x5 μ hr hA
    obtain ⟨f', rfl⟩ : ∃ f', f = f' + 1 := ⟨f - 1, by omega⟩
    have e : i = 24 := by omega
    subst e
    exact ⟨x1, x2, x3, x5, μ, by rw [f_L_isWhole_o132_L70, lt_n (by decide) (by decide) (by decide)], hA, fun _ _ => rfl⟩
  | succ n ih =>
    intro i hi f hf x1 x2 x3 x5 μ hr hA
    obtain ⟨f', rfl⟩ : ∃ f', f = f' + 1 := ⟨f - 1, by omega⟩
    have hc : 0 ≤ (i : Int) ∧ (i : Int) < 24 := ⟨by omega, by omega⟩
    have hT := hI.1 i hc.1 hc.2
    obtain ⟨a1, a2, a3, a4, a5⟩ := hA
    rw [f_L_isWhole_o132_L70, ← hF2, lt_y (by omega) (by decide) (by omega), v_urnOf hr hI (by omega) (by decide), bd_some]
    by_cases u : ur9_ s i
    · have u17 := u.2
      -- the urn's own answers
      have e0 : vu_ s i 0 = s (41 + i) := by
        unfold vu_
        rw [if_pos u, if_pos rfl]
      have e1 : vu_ s i 1 = s (65 + i) := by
        unfold vu_
        rw [if_pos u]
        rfl
      have e2 : vu_ s i 2 = hl_ s i := by
        unfold vu_
        rw [if_pos u]
        rfl
      have e3 : vu_ s i 3 = hd_ s i := by
        unfold vu_
        rw [if_pos u]
        rfl
      obtain ⟨hp0, hp1, -⟩ := hI.2.1
      -- the memory behind the count of colours
      generalize hm : st_ μ 151 (s (41 + i)) (μ 151 (s (41 + i)) + 1) = μ1
      have hm1 : ∀ q, q ≠ 151 → μ1 q = μ q := fun q hq => by rw [← hm, st_n hq]
      have hr1 : hr_ μ1 s := hr_x (fun j hj => hm1 j (by omega)) hr
      have hA1 : ac9_ s (i + 1) (x1 + 1) (x2 + hd_ s i) (x3 + hl_ s i) (or_ x5 (sl_ 1 i)) μ1 := by
        refine ⟨?_, ?_, ?_, ?_, fun j j0 j1 => ?_⟩
        · rw [cn_s, if_pos (decide_eq_true u17), a1]
        · rw [sm_s, if_pos u17, a2]
        · rw [sm_s, if_pos u17, a3]
        · refine mk_e (fun k k0 k1 => ?_) (mk_or a4 (mk_s hc))
          rw [ex_s, decide_eq_true u17, Bool.true_and]
        · rw [← hm, cn_s, st_s]
          by_cases w : s (41 + i) = j
          · rw [if_pos w.symm, if_pos (decide_eq_true ⟨u17, w⟩), w, a5 j j0 j1]
          · rw [if_neg (fun z => w z.symm), if_neg (by rw [decide_eq_false (fun z => w z.2)]; decide), a5 j j0 j1, Int.add_zero]
      obtain ⟨y1, y2, y3, y5, κ, k1, k2, k3⟩ := ih (i + 1) (by omega) f' (by omega) (x1 + 1) (x2 + hd_ s i) (x3 + hl_ s i) (or_ x5 (sl_ 1 i)) μ1 hr1 hA1
      refine ⟨y1, y2, y3, y5, κ, ?_, k2, fun q hq => (k3 q hq).trans (hm1 q hq)⟩
      obtain ⟨dp, d1, d2⟩ := v_depth hr1 hI u
      obtain ⟨kp, p1, p2, p3⟩ := v_keepers hr1 hI u
      obtain ⟨rg, g1, g2⟩ := v_ring hr1 hI u
      have dpr : dp = -15 ∨ (0 ≤ dp ∧ dp < 24) := by
        rcases d2 with ⟨-, q⟩ | ⟨-, d, q, q2, -⟩
        · exact Or.inl q
        · exact Or.inr ⟨by omega, by omega⟩
      have rgr : rg = -15 ∨ (1 ≤ rg ∧ rg ≤ 24) := by
        rcases g2 with ⟨q, -⟩ | ⟨d, q, q2, -⟩
        · exact Or.inl q
        · exact Or.inr ⟨by omega, by omega⟩
      obtain ⟨LL, hLL, hLd⟩ : ∃ LL : Int, (∀ J : Int → Option (Int × mu_T), eq_ (an_ (sr_ y (i : Int)) 1) 1 (J 1) (J 0) = J LL) ∧ ((LL = 0 ∧ lv9 s i = false ∧ dp = -15) ∨ (LL = 1 ∧ lv9 s i = true ∧ ∃ d : Nat, dp = d ∧ d < 24 ∧ rq_ (rt_ s (-15)) (ej_ s) d i = true ∧ ∀ d', d' < d → rq_ (rt_ s (-15)) (ej_ s) d' i = false)) := by
        rcases d2 with ⟨w, z⟩ | ⟨w, z⟩
        · refine ⟨0, fun J => ?_, Or.inl ⟨rfl, w, z⟩⟩
          rw [mk_bit hy hc, if_neg (by rw [w]; decide), eq_n (by decide) (by decide) (by decide)]
        · refine ⟨1, fun J => ?_, Or.inr ⟨rfl, w, z⟩⟩
          rw [mk_bit hy hc, if_pos w, eq_y rfl]
      have hLr : rg_ LL := by
        rcases hLd with ⟨q, -⟩ | ⟨q, -⟩ <;> rw [q] <;> decide
      have hA2 : f_X11_account μ1 2 = some (s 1) := v_account hr1 hI (by decide)
      obtain ⟨DD, hDD, hDd⟩ : ∃ DD : Int, (∀ J194 : Int → Option (Int × mu_T), jn_ (φ := Unit → Option (Int × mu_T)) (fun _ => J194 0) (fun J193 => eq_ (s 0) 2 (eq_ (s (41 + (i : Int))) 0 (bd_ (f_X11_account μ1 2) (fun v183 => lt_ (i : Int) v183 (J193 ()) (J194 1))) (J193 ())) (J193 ())) = J194 DD) ∧ (DD = 0 ∨ (DD = 1 ∧ dm_ s i)) := by
        by_cases z0 : s 0 = 2
        · by_cases z1 : s (41 + (i : Int)) = 0
          · by_cases z2 : (i : Int) < s 1
            · exact ⟨0, fun J => by rw [jn_e, eq_y z0, eq_y z1, hA2, bd_some, lt_y (by omega) (by omega) z2], Or.inl rfl⟩
            · exact ⟨1, fun J => by rw [jn_e, eq_y z0, eq_y z1, hA2, bd_some, lt_n (by omega) (by omega) z2], Or.inr ⟨rfl, z0, z1, by omega⟩⟩
          · exact ⟨0, fun J => by rw [jn_e, eq_y z0, eq_n (by omega) (by decide) z1], Or.inl rfl⟩
        · exact ⟨0, fun J => by rw [jn_e, eq_n (by omega) (by decide) z0], Or.inl rfl⟩
      have hx4 : x1_9 s i 4 = 1 ∨ x1_9 s i 4 = -15 := by
        unfold x1_9
        split
        · exact Or.inl rfl
        · exact Or.inr rfl
      have hring : (if x1_9 s i 4 = 1 then (1 : Int) else 0) = if rg = 1 then 1 else 0 := by
        have w : x1_9 s i 4 = 1 ↔ rq_ (ej_ s i) (ej_ s) 0 i = true := by
          have z : ex_ (fun j => decide (s (137 + ((i : Int) * 4 + j)) = (i : Int))) 4 = true ↔ ej_ s i i = true := by
            rw [ej_i, ex_i]
            constructor
            · rintro ⟨j, j0, j1, h⟩
              exact ⟨j, ⟨j0, j1⟩, (of_decide_eq_true h).symm⟩
            · rintro ⟨j, ⟨j0, j1⟩, h⟩
              exact ⟨j, j0, j1, decide_eq_true h.symm⟩
          show _ ↔ ej_ s i i = true
          rw [← z]
          unfold x1_9
          by_cases q : ex_ (fun j => decide (s (137 + ((i : Int) * 4 + j)) = (i : Int))) 4 = true
          · rw [if_pos q]
            exact ⟨fun _ => q, fun _ => rfl⟩
          · rw [if_neg q]
            exact ⟨fun h => absurd h (by decide), fun h => absurd h q⟩
        rcases g2 with ⟨q, q2⟩ | ⟨d, q, q2, q3, q4⟩
        · have z := q2 0 (by decide)
          rw [if_neg (fun h => by rw [w.mp h] at z; exact absurd z (by decide)), if_neg (by omega)]
        · by_cases d0 : d = 0
          · subst d0
            rw [if_pos (w.mpr q3), if_pos (by omega)]
          · have z := q4 0 (by omega)
            rw [if_neg (fun h => by rw [w.mp h] at z; exact absurd z (by decide)), if_neg (by omega)]
      have dp1 : rg_ dp ∧ dp < 24 := by
        clear d2 g2 hLd hDd hring hLL hDD k1 k2 k3 ih p3
        rcases dpr with q | q
        · exact ⟨⟨by omega, by omega⟩, by omega⟩
        · exact ⟨⟨by omega, by omega⟩, by omega⟩
      have rg1 : rg_ rg ∧ ¬ rg < 1 ∨ rg = -15 := by
        clear d2 g2 hLd hDd hring hLL hDD k1 k2 k3 ih p3
        rcases rgr with q | q
        · exact Or.inr q
        · exact Or.inl ⟨⟨by omega, by omega⟩, by omega⟩
      have c41 : rg_ (s (41 + (i : Int))) ∧ s (41 + (i : Int)) ≠ -11 := by
        have := hT.2.1
        clear d2 g2 hLd hDd hring hLL hDD k1 k2 k3 ih p3
        exact ⟨⟨by omega, by omega⟩, by omega⟩
      have rgi : rg_ (i : Int) := ⟨by omega, by omega⟩
      have c3 : s (41 + (i : Int)) < ((3 : Nat) : Int) := by
        have := hT.2.1
        clear d2 g2 hLd hDd hring hLL hDD k1 k2 k3 ih p3
        omega
      rw [e0, jn_e, eq_n c41.1 (by decide) c41.2, nm_q, nm_q, bd_some, rd_e hT.2.1.1 c3, wr_e hT.2.1.1 c3, hm, v_urnOf hr1 hI rgi (by decide), bd_some, e3, nm_q, v_urnOf hr1 hI rgi (by decide), bd_some, e2, nm_q, jn_v (v := LL) hLL, d1, bd_some, jn_v (v := DD) hDD, jn_v (v := LL) (fun J => ?g1), eq_y rfl, lt_y dp1.1 (by decide) dp1.2, jn_v (v := ()) (fun J => ?g2), p1, bd_some, eq_y (low_an p2), jn_v (v := ()) (fun J => ?g3), jn_v (v := ()) (fun J => ?g4), jn_v (v := ()) (fun J => ?g5), jn_v (v := x1_9 s i 4) (fun J => ?g6), g1, bd_some, jn_v (v := if x1_9 s i 4 = 1 then (1 : Int) else 0) (fun J => ?g7), jn_v (v := if rg = 1 then (1 : Int) else 0) (fun J => ?g8), eq_y hring, jn_v (v := ()) (fun J => ?g9), v_urnOf hr1 hI rgi (by decide), bd_some, e1, jn_v (v := ()) (fun J => ?g10), eq_n (by decide) (by decide) (by decide), eq_n (by decide) (by decide) (by decide), eq_n (by decide) (by decide) (by decide), eq_n (by decide) (by decide) (by decide)]
      case g1 =>
        rcases hLd with ⟨q, -, z⟩ | ⟨q, -, d, z, -⟩
        · rw [q, lt_y (by omega) (by decide) (by omega)]
        · rw [q, lt_n (by omega) (by decide) (by omega)]
      case g2 =>
        rcases hLd with ⟨q, z, -⟩ | ⟨q, -⟩
        · rw [eq_y q, p1, bd_some, eq_y (p3 z)]
        · rw [eq_n hLr (by decide) (by omega)]
      case g3 =>
        by_cases z : 0 < s 0
        · rw [lt_y (by decide) (by omega) z]
        · rw [lt_n (by decide) (by omega) z, eq_y (hB.2.2.2.1 (by omega) i hc.1 hc.2)]
      case g4 =>
        by_cases z : s 0 = 1
        · rw [eq_y z]
        · rw [eq_n (by omega) (by decide) z, eq_n (by omega) (by decide) (no_grey hI z hc)]
      case g5 =>
        rcases hDd with q | ⟨q, z⟩
        · rw [eq_y q]
        · rw [q, eq_n (by decide) (by decide) (by decide)]
          rcases hLd with ⟨q2, -⟩ | ⟨q2, q3, -⟩
          · rw [eq_y q2]
          · exact absurd z (lv_in hI hB hc q3).2
      case g6 =>
        refine l_297 hr1 hI hB u (L9 := LL) (d9 := dp) ?_ 4 0 (by decide) F (by omega)
        rcases hLd with ⟨q, -⟩ | ⟨q, -, d, z1, z2, z3, -⟩
        · exact Or.inl q
        · exact Or.inr ⟨q, d, z1, z2, z3⟩
      case g7 => exact eq_01 (by omega) (by decide) J
      case g8 => exact eq_01 (by omega) (by decide) J
      case g9 =>
        clear d2 g2 hLd hDd hring hLL hDD k1 k2 k3 ih p3 rg1
        rcases rgr with q | ⟨q1, q2⟩
        · rw [eq_y q]
        · rw [eq_n ⟨by omega, by omega⟩ (by decide) (by omega), lt_n ⟨by omega, by omega⟩ (by decide) (by omega), lt_n (by decide) ⟨by omega, by omega⟩ (by omega)]
      case g10 =>
        by_cases z : s (65 + (i : Int)) = 2
        · have z0 := lv_0 hc u17 z
          have z1 : lv9 s i = true := rc_le (Nat.zero_le _) z0
          rcases hLd with ⟨-, q, -⟩ | ⟨q, -, d, q2, -, -, q3⟩
          · rw [q] at z1
            exact absurd z1 (by decide)
          · have d0 : d = 0 := by
              by_cases d0 : d = 0
              · exact d0
              · have w := q3 0 (by omega)
                rw [z0] at w
                exact absurd w (by decide)
            rw [eq_y z, eq_n hLr (by decide) (by omega), eq_y (by omega)]
        · have w := (hI.1 i hc.1 hc.2).2.2.1
          rw [eq_n (by omega) (by decide) z]
      exact k1
    · have e0 : vu_ s i 0 = -11 := by
        unfold vu_
        rw [if_neg u]
      have h17 : ¬ s (17 + (i : Int)) = 1 := fun z => u ⟨hc, z⟩
      have hA1 : ac9_ s (i + 1) x1 x2 x3 x5 μ := by
        refine ⟨?_, ?_, ?_, ?_, fun j j0 j1 => ?_⟩
        · rw [cn_s, if_neg (by rw [decide_eq_false h17]; decide), a1, Int.add_zero]
        · rw [sm_s, if_neg h17, a2, Int.add_zero]
        · rw [sm_s, if_neg h17, a3, Int.add_zero]
        · refine mk_e (fun k k0 k1 => ?_) a4
          rw [ex_s, decide_eq_false h17, Bool.false_and, Bool.or_false]
        · rw [cn_s, if_neg (by rw [decide_eq_false (fun z => h17 z.1)]; decide), a5 j j0 j1, Int.add_zero]
      obtain ⟨y1, y2, y3, y5, κ, k1, k2, k3⟩ := ih (i + 1) (by omega) f' (by omega) x1 x2 x3 x5 μ hr hA1
      refine ⟨y1, y2, y3, y5, κ, ?_, k2, k3⟩
      rw [e0, jn_e, eq_y rfl]
      exact k1
end QU2
