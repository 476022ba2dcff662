/-! the order of the urns -/
section QO
variable {t : Int} {μ ν : mu_T} {s : Int → Int} {a b c : Int}
theorem wt_0 : 0 ≤ wt_ s c ∨ 24 ≤ c := by
  by_cases h : c < 24
  · refine Or.inl ?_
    unfold wt_
    have h1 := (hd_b (s := s) (a := c)).1
    have h2 := (hl_b (s := s) (a := c)).1
    split <;> omega
  · exact Or.inr (by omega)
theorem wt_y (u : ur9_ s c) : wt_ s c = (hd_ s c * 5 + hl_ s c) * 24 + 24 - c := if_pos u.2
theorem wt_u (hT : iv_T s) (hc : 0 ≤ c ∧ c < 24) (h : 0 < wt_ s c) : s (17 + c) = 1 := by
  by_cases w : s (17 + c) = 1
  · exact w
  · unfold wt_ at h
    rw [if_neg w] at h
    omega
theorem rk_lt (h : rk9 s a < rk9 s b) : wt_ s b < wt_ s a := by
  by_cases w : wt_ s b < wt_ s a
  · exact w
  · have q : rk9 s b ≤ rk9 s a := cn_le2 24 (fun o _ _ h => decide_eq_true (by have := of_decide_eq_true h; omega))
    omega
theorem wt_inj (ha : ur9_ s a) (hb : ur9_ s b) (h : wt_ s a = wt_ s b) : a = b := by
  rw [wt_y ha, wt_y hb] at h
  have := ha.1
  have := hb.1
  omega
theorem mx9 {P : Int → Bool} {f : Int → Int} : ∀ n : Nat, (∃ o : Int, (0 ≤ o ∧ o < n) ∧ P o = true ∧ ∀ x : Int, 0 ≤ x → x < n → P x = true → f x ≤ f o) ∨ (∀ x : Int, 0 ≤ x → x < n → P x = false)
  | 0 => Or.inr (fun x a b => by omega)
  | n + 1 => by
    rcases mx9 (P := P) (f := f) n with ⟨o, h1, h2, h3⟩ | h
    · by_cases hn : P n = true
      · by_cases hf : f o < f n
        · refine Or.inl ⟨n, ⟨by omega, by omega⟩, hn, fun x x0 x1 hx => ?_⟩
          by_cases e : x = n
          · rw [e]
            exact Int.le_refl _
          · have := h3 x x0 (by omega) hx
            omega
        · refine Or.inl ⟨o, ⟨h1.1, by omega⟩, h2, fun x x0 x1 hx => ?_⟩
          by_cases e : x = n
          · rw [e]
            omega
          · exact h3 x x0 (by omega) hx
      · refine Or.inl ⟨o, ⟨h1.1, by omega⟩, h2, fun x x0 x1 hx => ?_⟩
        by_cases e : x = n
        · rw [e] at hx
          exact absurd hx hn
        · exact h3 x x0 (by omega) hx
    · by_cases hn : P n = true
      · refine Or.inl ⟨n, ⟨by omega, by omega⟩, hn, fun x x0 x1 hx => ?_⟩
        by_cases e : x = n
        · rw [e]
          exact Int.le_refl _
        · have := h x x0 (by omega)
          rw [hx] at this
          exact absurd this (by decide)
      · refine Or.inr (fun x x0 x1 => ?_)
        by_cases e : x = n
        · rw [e]
          exact Bool.eq_false_iff.mpr hn
        · exact h x x0 (by omega)
theorem rk_pred (hT : iv_T s) (u : ur9_ s b) (h : 1 ≤ rk9 s b) : ∃ a, ur9_ s a ∧ rk9 s a = rk9 s b - 1 := by
  have wb : 0 < wt_ s b := by
    rw [wt_y u]
    have h1 := (hd_b (s := s) (a := b)).1
    have h2 := (hl_b (s := s) (a := b)).1
    have := u.1
    omega
  rcases mx9 (P := fun o => decide (wt_ s b < wt_ s o)) (f := rk9 s) 24 with ⟨a, h1, h2, h3⟩ | hn
  · have h2' := of_decide_eq_true h2
    have ua : ur9_ s a := ⟨h1, wt_u hT h1 (by omega)⟩
    have e1 : rk9 s a + 1 ≤ rk9 s b := cn_lt3 (x := a) (decide_eq_false (by omega)) (decide_eq_true h2') h1.1 24 h1.2 (fun o _ _ q => decide_eq_true (by have := of_decide_eq_true q; omega))
    refine ⟨a, ua, ?_⟩
    by_cases e2 : rk9 s a = rk9 s b - 1
    · exact e2
    · exfalso
      -- one more that is ahead of b, not ahead of a, not a
      by_cases ho : ∃ o : Int, (0 ≤ o ∧ o < 24) ∧ wt_ s b < wt_ s o ∧ ¬ wt_ s a < wt_ s o ∧ o ≠ a
      · obtain ⟨o, o1, o2, o3, o4⟩ := ho
        have uo : ur9_ s o := ⟨o1, wt_u hT o1 (by omega)⟩
        have o5 : wt_ s o ≠ wt_ s a := fun q => o4 (wt_inj uo ua q)
        have e3 : rk9 s a + 1 ≤ rk9 s o := cn_lt3 (x := a) (decide_eq_false (by omega)) (decide_eq_true (by omega)) h1.1 24 h1.2 (fun x _ _ q => decide_eq_true (by have := of_decide_eq_true q; omega))
        have e4 := h3 o o1.1 o1.2 (decide_eq_true o2)
        omega
      · have e5 : rk9 s b ≤ cn_ (fun o => decide (wt_ s a < wt_ s o) || decide (o = a)) 24 := cn_le2 24 (fun o o0 o1 q => by
          have q1 := of_decide_eq_true q
          by_cases w : wt_ s a < wt_ s o
          · show (decide (wt_ s a < wt_ s o) || decide (o = a)) = true
            rw [decide_eq_true w]
            rfl
          · by_cases w2 : o = a
            · show (decide (wt_ s a < wt_ s o) || decide (o = a)) = true
              rw [decide_eq_true w2, Bool.or_true]
            · exact absurd ⟨o, ⟨o0, o1⟩, q1, w, w2⟩ ho)
        have e6 := cn_up (p := fun o => decide (wt_ s a < wt_ s o)) (q := fun o => decide (wt_ s a < wt_ s o) || decide (o = a)) h1.1 24 (fun x _ _ hx => by
          show (decide (wt_ s a < wt_ s x) || decide (x = a)) = decide (wt_ s a < wt_ s x)
          rw [decide_eq_false hx, Bool.or_false])
        have e7 : (if (a : Int) < ((24 : Nat) : Int) then (if (decide (wt_ s a < wt_ s a) || decide (a = a)) = true then (1 : Int) else 0) - (if decide (wt_ s a < wt_ s a) = true then 1 else 0) else 0) = 1 := by
          rw [if_pos h1.2, decide_eq_true (show a = a from rfl), Bool.or_true, if_pos rfl, if_neg (by rw [decide_eq_false (by omega)]; decide)]
          rfl
        have e8 : cn_ (fun o => decide (wt_ s a < wt_ s o) || decide (o = a)) 24 = rk9 s a + 1 := e6.trans (congrArg (fun z => rk9 s a + z) e7)
        omega
  · exfalso
    have e : rk9 s b ≤ 0 := by
      have q : cn_ (fun o => decide (wt_ s b < wt_ s o)) 24 = cn_ (fun _ => false) 24 := cn_eq 24 (fun o o0 o1 => hn o o0 o1)
      have z : cn_ (fun _ : Int => false) 24 = 0 := by decide
      unfold rk9
      omega
    omega
theorem rk_many (hT : iv_T s) (u : ur9_ s c) : rk9 s c < nu_ s := by
  have wb : 0 < wt_ s c := by
    rw [wt_y u]
    have h1 := (hd_b (s := s) (a := c)).1
    have h2 := (hl_b (s := s) (a := c)).1
    have := u.1
    omega
  have e : rk9 s c + 1 ≤ nu_ s := cn_lt3 (x := c) (decide_eq_false (by omega)) (decide_eq_true u.2) u.1.1 24 u.1.2 (fun o o0 o1 q => decide_eq_true (wt_u hT ⟨o0, o1⟩ (by have := of_decide_eq_true q; omega)))
  omega
theorem l_550 (hI : iv_ t s) {J : mu_T → Option (Int × mu_T)} : ∀ (n i : Nat), 1 ≤ i → i + n ≤ 100 → nu_ s ≤ (i : Int) + n → ∀ f : Nat, n < f → ∀ μ : mu_T, hr_ μ s → ∃ μ' : mu_T, f_L_isWhole_o132_L550 J (nu_ s) f i μ = J μ' ∧ ∀ q, q ≠ 137 → μ' q = μ q := by
  have hb := nu_b (s := s)
  intro n
  induction n with
  | zero =>
    intro i hi h1 hn f hf μ hr
    obtain ⟨f', rfl⟩ : ∃ f', f = f' + 1 := ⟨f - 1, by omega⟩
    refine ⟨μ, ?_, fun _ _ => rfl⟩
    rw [f_L_isWhole_o132_L550, lt_n (by omega) (by omega) (by omega)]
  | succ n ih =>
    intro i hi h1 hn f hf μ hr
    obtain ⟨f', rfl⟩ : ∃ f', f = f' + 1 := ⟨f - 1, by omega⟩
    by_cases hlt : (i : Int) < nu_ s
    · obtain ⟨a, κ1, a1, a2, a3⟩ := v_ranked (a := (i : Int) - 1) hr hI ⟨by omega, by omega⟩
      have k1 : ∀ q, q ≠ 137 → (um_ κ1 151 (μ 151)) q = μ q := fun q hq => by
        by_cases e : q = 151
        · rw [e, um_self]
        · rw [um_ne e, a2 q hq]
      have hr1 : hr_ (um_ κ1 151 (μ 151)) s := hr_x (fun j hj => k1 j (by omega)) hr
      obtain ⟨b, κ2, b1, b2, b3⟩ := v_ranked (a := (i : Int)) hr1 hI ⟨by omega, by omega⟩
      have k2 : ∀ q, q ≠ 137 → (um_ κ2 151 (um_ κ1 151 (μ 151) 151)) q = μ q := fun q hq => by
        by_cases e : q = 151
        · rw [e, um_self, um_self]
        · rw [um_ne e, b2 q hq, k1 q hq]
      have hr2 : hr_ (um_ κ2 151 (um_ κ1 151 (μ 151) 151)) s := hr_x (fun j hj => k2 j (by omega)) hr
      obtain ⟨μ', c1, c2⟩ := ih (i + 1) (by omega) (by omega) (by omega) f' (by omega) _ hr2
      refine ⟨μ', ?_, fun q hq => (c2 q hq).trans (k2 q hq)⟩
      have ra : rg_ a := by
        rcases a3 with ⟨u, -⟩ | ⟨q, -⟩
        · have := u.1
          exact ⟨by omega, by omega⟩
        · rw [q]
          decide
      have rb : rg_ b := by
        rcases b3 with ⟨u, -⟩ | ⟨q, -⟩
        · have := u.1
          exact ⟨by omega, by omega⟩
        · rw [q]
          decide
      -- what the two urns hold and are held
      have hold : ∀ x y : Int, ∃ z : Int, (x = y → z = 0 ∨ True) := fun x y => ⟨0, fun _ => Or.inr trivial⟩
      rw [f_L_isWhole_o132_L550, lt_y (by omega) (by omega) hlt, a1, be_some, b1, be_some, v_urnOf (a := a) (b := 3) hr2 hI ra (by decide), bd_some, v_urnOf (a := b) (b := 3) hr2 hI rb (by decide), bd_some, v_urnOf (a := a) (b := 2) hr2 hI ra (by decide), v_urnOf (a := b) (b := 2) hr2 hI rb (by decide)]
      simp only [bd_some]
      obtain ⟨D, e1, e2⟩ : ∃ D : Int, (∀ Jx : Int → Option (Int × mu_T), eq_ (vu_ s a 3) (vu_ s b 3) (Jx (vu_ s a 2 - vu_ s b 2)) (Jx (vu_ s a 3 - vu_ s b 3)) = Jx D) ∧ (rg_ D ∧ 0 ≤ D ∧ (D = 0 → ¬ b < a)) := by
        have h11 : ∀ x : Int, vu_ s (-11) x = -11 := fun x => by
          unfold vu_
          rw [if_neg (fun q => by have := q.1.1; omega)]
        have hv : ∀ x, ur9_ s x → vu_ s x 3 = hd_ s x ∧ vu_ s x 2 = hl_ s x := fun x u => by
          unfold vu_
          rw [if_pos u, if_pos u]
          exact ⟨rfl, rfl⟩
        rcases a3 with ⟨ua, qa⟩ | ⟨qa, na⟩
        · have va := hv a ua
          have d1 := hd_b (s := s) (a := a)
          have d2 := hl_b (s := s) (a := a)
          rcases b3 with ⟨ub, qb⟩ | ⟨qb, nb⟩
          · have vb := hv b ub
            have d3 := hd_b (s := s) (a := b)
            have d4 := hl_b (s := s) (a := b)
            have w := rk_lt (s := s) (a := a) (b := b) (by omega)
            rw [wt_y ua, wt_y ub] at w
            have ha := ua.1
            have hb2 := ub.1
            by_cases z : hd_ s a = hd_ s b
            · exact ⟨hl_ s a - hl_ s b, fun Jx => by rw [va.1, vb.1, va.2, vb.2, eq_y z], ⟨by omega, by omega⟩, by omega, by omega⟩
            · exact ⟨hd_ s a - hd_ s b, fun Jx => by rw [va.1, vb.1, va.2, vb.2, eq_n ⟨by omega, by omega⟩ ⟨by omega, by omega⟩ z], ⟨by omega, by omega⟩, by omega, by omega⟩
          · exact ⟨hd_ s a - -11, fun Jx => by rw [qb, h11, h11, va.1, eq_n ⟨by omega, by omega⟩ (by decide) (by omega)], ⟨by omega, by omega⟩, by omega, by omega⟩
        · rcases b3 with ⟨ub, qb⟩ | ⟨qb, nb⟩
          · obtain ⟨x, ux, qx⟩ := rk_pred hI.1 ub (by omega)
            exact absurd (by omega) (na x ux.1.1 ux.1.2 ux.2)
          · exact ⟨0, fun Jx => by rw [qa, qb, h11, h11, eq_y rfl]; rfl, by decide, by decide, fun _ => by omega⟩
      rw [jn_v (v := D) e1, lt_n e2.1 (by decide) (by omega), jn_v (v := ()) (fun Jx => ?g1)]
      case g1 =>
        by_cases z : D = 0
        · rw [eq_y z, lt_n rb ra (e2.2.2 z)]
        · rw [eq_n e2.1 (by decide) z]
      exact c1
    · refine ⟨μ, ?_, fun _ _ => rfl⟩
      rw [f_L_isWhole_o132_L550, lt_n (by omega) (by omega) hlt]
end QO
