/-! what can be come to: the answers -/
section LV
variable {μ ν : mu_T} {s : Int → Int} {t : Int}
theorem rc_e {r r' : Int → Bool} {e : Int → Int → Bool} (h : ∀ c, 0 ≤ c → c < 24 → r c = r' c) : ∀ (n : Nat) (c : Int), 0 ≤ c → c < 24 → rq_ r e n c = rq_ r' e n c
  | 0, c, c0, c1 => h c c0 c1
  | n + 1, c, c0, c1 => by
    rw [rc_s, rc_s, rc_e h n c c0 c1, ex_e 24 (fun b b0 b1 => by
      show (rq_ r e n b && e b c) = (rq_ r' e n b && e b c)
      rw [rc_e h n b b0 b1])]
theorem fr_e {r r' : Int → Bool} {e : Int → Int → Bool} {o : Int} {g : Int → Int} (h : ∀ c, 0 ≤ c → c < 24 → r c = r' c) (hf : fj_ r e o g) : fj_ r' e o g := fun c c0 c1 => by
  have q := hf c c0 c1
  refine ⟨q.1, ?_⟩
  rcases q.2 with ⟨z1, z2, d, z3, z4, z5, z6⟩ | ⟨z1, z2⟩
  · exact Or.inl ⟨z1, by rw [← rc_e h 24 c c0 c1]; exact z2, d, z3, z4, by rw [← rc_e h d c c0 c1]; exact z5, fun d' hd => by rw [← rc_e h d' c c0 c1]; exact z6 d' hd⟩
  · exact Or.inr ⟨z1, fun d => by rw [← rc_e h d c c0 c1]; exact z2 d⟩
theorem rw_0 {a k : Int} : rw_ s a 0 k = rt_ s a k := by
  unfold rw_
  rw [decide_eq_false (fun q => absurd q.1 (by decide)), Bool.or_false]
theorem rt_n {k : Int} : rt_ s (-11) k = rt_ s (-15) k := by
  rfl
theorem iv_hn (hI : iv_ t s) : ∀ k, 0 ≤ k → k < 6 → s (11 + k) = -15 ∨ (0 ≤ s (11 + k) ∧ s (11 + k) < 24) := fun k k0 k1 => ft_or (hI.2.2.2.2.1 k k0 k1).1
theorem iv_ht (hI : iv_ t s) : ∀ k, 0 ≤ k → k < 96 → s (137 + k) = -15 ∨ (0 ≤ s (137 + k) ∧ s (137 + k) < 24) := fun k k0 k1 => ft_or (hI.2.2.1 k k0 k1)
theorem e_rootsR (hr : hr_ μ s) (hI : iv_ t s) {a : Int} (ha : rg_ a) : ∃ y, f_X7_roots μ a = some y ∧ mk_ y (rt_ s a) := e_roots hI.1 hr.2.2.2.1 hr.2.2.1 hr.2.2.2.2.2.1 (iv_hn hI) ha
theorem e_reach (hr : hr_ μ s) (hI : iv_ t s) : ∃ y, f_X7_reach μ = some y ∧ mk_ y (rq_ (rt_ s (-15)) (ej_ s) 24) := by
  obtain ⟨x, e1, e2⟩ := e_rootsR hr hI (a := -15) (by decide)
  obtain ⟨y, e3, e4⟩ := e_reachFrom hr.1 (iv_ht hI) e2
  unfold f_X7_reach
  rw [e1, bd_some, e3, bd_some]
  exact ⟨y, rfl, e4⟩
theorem e_live (hI : iv_ t (ν 1)) : ∃ y g, f_X12_live ν = some (y, um_ ν 8 g) ∧ mk_ y (rq_ (rt_ (ν 1) (-15)) (ej_ (ν 1)) 24) := by
  obtain ⟨g, a1, a2⟩ := e_measures hI (a := -11) (w := 0) (by decide) (Or.inl rfl)
  have a3 := fr_99 (fr_e (fun c _ _ => rw_0.trans rt_n) a2)
  obtain ⟨y, b1, b2⟩ := e_reached (ν := ν) a3.1
  unfold f_X12_live
  rw [a1, bd_some, b1, bd_some]
  exact ⟨y, g, rfl, mk_e (fun k k0 k1 => a3.2 k k0 k1) b2⟩
theorem p_live : pf_live RR_ := fun t μ ν _ hR => by
  have hS := RR_skip t μ ν hR
  obtain ⟨hr, hI⟩ : hr_ μ (ν 1) ∧ iv_ (60 * ((t + 1 : Nat) : Int)) (ν 1) := hS.1
  obtain ⟨y, e1, e2⟩ := e_reach hr hI
  obtain ⟨z, g, f1, f2⟩ := e_live hI
  have e := mk_eq e2 f2 (fun _ _ _ => rfl)
  refine ⟨z, um_ ν 8 g, ?_, f1, RR_kk hR (fun _ _ => rfl) (fun q hq => um_ne hq)⟩
  unfold f_X11_live
  rw [e1, bd_some, e]
-- the second way
theorem l_hs (h1 : ∀ k, 0 ≤ k → k < 96 → μ 1 k = s (137 + k)) (hg : ∀ k, 0 ≤ k → k < 96 → rg_ (s (137 + k))) {x a : Int} {p : Int → Bool} (hx : mk_ x p) (ha : rg_ a) : ∀ (n : Nat) (i : Int), 0 ≤ i → i + n = 96 → ∀ f : Nat, n < f → ((∀ k, i ≤ k → k < 96 → ¬ (s (137 + k) = a ∧ p (k / 4) = true)) → f_X7_isHeldBySome_L2 x a μ f i = some 0) ∧ ((∃ k, i ≤ k ∧ k < 96 ∧ s (137 + k) = a ∧ p (k / 4) = true) → f_X7_isHeldBySome_L2 x a μ f i = some 1) := by
  intro n
  induction n with
  | zero =>
    intro i i0 hi f hff
    obtain ⟨f', rfl⟩ : ∃ f', f = f' + 1 := ⟨f - 1, by omega⟩
    refine ⟨fun _ => ?_, fun ⟨k, a, b, _⟩ => by omega⟩
    rw [f_X7_isHeldBySome_L2, lt_n (by omega) (by decide) (by omega)]
  | succ n ih =>
    intro i i0 hi f hff
    obtain ⟨f', rfl⟩ : ∃ f', f = f' + 1 := ⟨f - 1, by omega⟩
    obtain ⟨q1, q2⟩ := ih (i + 1) (by omega) (by omega) f' (by omega)
    have ev : f_X7_isHeldBySome_L2 x a μ (f' + 1) i = if s (137 + i) = a ∧ p (i / 4) = true then some 1 else f_X7_isHeldBySome_L2 x a μ f' (i + 1) := by
      rw [f_X7_isHeldBySome_L2, lt_y (by omega) (by decide) (by omega), rd_e i0 (by omega), h1 i i0 (by omega)]
      simp only [jn_e, nm_q]
      by_cases h2 : s (137 + i) = a
      · rw [eq_y h2, dv_e (by omega) (by decide) i0 (by decide), e_isIn hx ⟨by omega, by omega⟩, bd_some]
        by_cases h3 : p (i / 4) = true
        · rw [if_pos h3, eq_n (by decide) (by decide) (by decide), if_pos ⟨h2, h3⟩]
        · rw [if_neg h3, eq_y rfl, if_neg (fun z => h3 z.2)]
      · rw [eq_n (hg i i0 (by omega)) ha h2, if_neg (fun z => h2 z.1)]
    rw [ev]
    refine ⟨fun h => ?_, fun ⟨k, k0, b, c⟩ => ?_⟩
    · rw [if_neg (h i (by omega) (by omega))]
      exact q1 (fun k k0 b => h k (by omega) b)
    · by_cases hb : s (137 + i) = a ∧ p (i / 4) = true
      · rw [if_pos hb]
      · rw [if_neg hb]
        refine q2 ⟨k, ?_, b, c⟩
        by_cases hk : k = i
        · rw [hk] at c
          exact absurd c hb
        · omega
theorem e_isHeld (h1 : ∀ k, 0 ≤ k → k < 96 → μ 1 k = s (137 + k)) (hg : ∀ k, 0 ≤ k → k < 96 → rg_ (s (137 + k))) {x a : Int} {p : Int → Bool} (hx : mk_ x p) (ha : rg_ a) : f_X7_isHeldBySome μ x a = some (if ex_ (fun b => p b && ej_ s b a) 24 = true then 1 else 0) := by
  obtain ⟨F, hF, hF2⟩ := F_big
  unfold f_X7_isHeldBySome
  rw [← hF2]
  obtain ⟨q1, q2⟩ := l_hs h1 hg hx ha 96 0 (by decide) (by decide) F (by omega)
  by_cases h : ex_ (fun b => p b && ej_ s b a) 24 = true
  · rw [if_pos h]
    obtain ⟨b, b0, b1, b2⟩ := ex_i.mp h
    rw [Bool.and_eq_true] at b2
    obtain ⟨j, j0, j1, j2⟩ := ex_i.mp b2.2
    exact q2 ⟨b * 4 + j, by omega, by omega, (of_decide_eq_true j2).symm, by rw [show (b * 4 + j) / 4 = b by omega]; exact b2.1⟩
  · rw [if_neg h]
    refine q1 (fun k k0 k1 z => h ?_)
    refine ex_i.mpr ⟨k / 4, by omega, by omega, ?_⟩
    rw [z.2, Bool.true_and]
    refine ex_i.mpr ⟨k - k / 4 * 4, by omega, by omega, decide_eq_true ?_⟩
    rw [show k / 4 * 4 + (k - k / 4 * 4) = k by omega]
    exact z.1.symm
theorem l_26 {J : Int → Int → Option Int} (h1 : ∀ k, 0 ≤ k → k < 96 → μ 1 k = s (137 + k)) (hg : ∀ k, 0 ≤ k → k < 96 → rg_ (s (137 + k))) {r : Int → Bool} : ∀ (n : Nat) (i : Int), 0 ≤ i → i + n = 24 → ∀ f : Nat, n < f → ∀ (x b : Int) (p : Int → Bool), mk_ x p → (b = 0 ∨ b = 1) → (∀ k, 0 ≤ k → k < 24 → p k = true → rq_ r (ej_ s) 24 k = true) → ∃ (x' b' : Int) (p' : Int → Bool), f_X7_reachUrnByUrn_L26 J μ f x b i = J x' b' ∧ mk_ x' p' ∧ (b' = 0 ∨ b' = 1) ∧ (∀ k, 0 ≤ k → k < 24 → p' k = true → rq_ r (ej_ s) 24 k = true) ∧ (∀ k, 0 ≤ k → k < 24 → p k = true → p' k = true) ∧ (∀ k, i ≤ k → k < 24 → ex_ (fun c => p c && ej_ s c k) 24 = true → p' k = true) ∧ (b' = 0 → ∀ k, 0 ≤ k → k < 24 → p' k = p k) ∧ (b = 1 → b' = 1) := by
  intro n
  induction n with
  | zero =>
    intro i i0 hi f hf x b p hx hb hs
    obtain ⟨f', rfl⟩ : ∃ f', f = f' + 1 := ⟨f - 1, by omega⟩
    refine ⟨x, b, p, ?_, hx, hb, hs, fun _ _ _ h => h, fun k a c => by omega, fun _ _ _ _ => rfl, fun h => h⟩
    rw [f_X7_reachUrnByUrn_L26, lt_n (by omega) (by decide) (by omega)]
  | succ n ih =>
    intro i i0 hi f hf x b p hx hb hs
    obtain ⟨f', rfl⟩ : ∃ f', f = f' + 1 := ⟨f - 1, by omega⟩
    have stay : (ex_ (fun c => p c && ej_ s c i) 24 = true → p i = true) → f_X7_reachUrnByUrn_L26 J μ (f' + 1) x b i = f_X7_reachUrnByUrn_L26 J μ f' x b (i + 1) → ∃ (x' b' : Int) (p' : Int → Bool), f_X7_reachUrnByUrn_L26 J μ (f' + 1) x b i = J x' b' ∧ mk_ x' p' ∧ (b' = 0 ∨ b' = 1) ∧ (∀ k, 0 ≤ k → k < 24 → p' k = true → rq_ r (ej_ s) 24 k = true) ∧ (∀ k, 0 ≤ k → k < 24 → p k = true → p' k = true) ∧ (∀ k, i ≤ k → k < 24 → ex_ (fun c => p c && ej_ s c k) 24 = true → p' k = true) ∧ (b' = 0 → ∀ k, 0 ≤ k → k < 24 → p' k = p k) ∧ (b = 1 → b' = 1) := fun h0 hev => by
      obtain ⟨x', b', p', a1, a2, a3, a4, a5, a6, a7⟩ := ih (i + 1) (by omega) (by omega) f' (by omega) x b p hx hb hs
      refine ⟨x', b', p', hev.trans a1, a2, a3, a4, a5, fun k k0 k1 k2 => ?_, a7⟩
      by_cases hk : k = i
      · rw [hk] at k2 ⊢
        exact a5 i i0 (by omega) (h0 k2)
      · exact a6 k (by omega) k1 k2
    by_cases hp : p i = true
    · refine stay (fun _ => hp) ?_
      rw [f_X7_reachUrnByUrn_L26, lt_y (by omega) (by decide) (by omega), e_isIn hx ⟨i0, by omega⟩, bd_some]
      simp only [jn_e, nm_q]
      rw [if_pos hp, eq_n (by decide) (by decide) (by decide)]
    · by_cases hh : ex_ (fun c => p c && ej_ s c i) 24 = true
      · obtain ⟨z, e1, e2⟩ := e_bit (μ := μ) (a := i) (Or.inr ⟨i0, by omega⟩)
        obtain ⟨c, c0, c1, c2⟩ := ex_i.mp hh
        rw [Bool.and_eq_true] at c2
        have hri : rq_ r (ej_ s) 24 i = true := by
          rw [rc_ph (by decide) i0 (by omega), ← rc_ph (m := 25) (by decide) i0 (by omega)]
          exact rc_st ⟨c0, c1⟩ (hs c c0 c1 c2.1) c2.2
        obtain ⟨x', b', p', a1, a2, a3, a4, a5, a6, a7⟩ := ih (i + 1) (by omega) (by omega) f' (by omega) (or_ x z) 1 (fun k => p k || decide (k = i)) (mk_or hx e2) (Or.inr rfl) (fun k k0 k1 k2 => by
          rw [Bool.or_eq_true] at k2
          rcases k2 with k2 | k2
          · exact hs k k0 k1 k2
          · rw [of_decide_eq_true k2]
            exact hri)
        have up : ∀ k, 0 ≤ k → k < 24 → p k = true → p' k = true := fun k k0 k1 k2 => a5 k k0 k1 (by
          show (_ || _) = true
          rw [k2, Bool.true_or])
        have hi' : p' i = true := a5 i i0 (by omega) (by
          show (_ || _) = true
          rw [decide_eq_true rfl, Bool.or_true])
        refine ⟨x', b', p', ?_, a2, a3, a4, up, fun k k0 k1 k2 => ?_, fun hb' k k0 k1 => ?_, fun _ => a7.2 rfl⟩
        · rw [f_X7_reachUrnByUrn_L26, lt_y (by omega) (by decide) (by omega), e_isIn hx ⟨i0, by omega⟩, bd_some]
          simp only [jn_e, nm_q]
          rw [if_neg hp, eq_y rfl, e_isHeld h1 hg hx (by omega), bd_some, if_pos hh, eq_n (by decide) (by decide) (by decide), e1, bd_some]
          exact a1
        · by_cases hk : k = i
          · rw [hk]
            exact hi'
          · refine a6 k (by omega) k1 ?_
            obtain ⟨d, d0, d1, d2⟩ := ex_i.mp k2
            rw [Bool.and_eq_true] at d2
            exact ex_i.mpr ⟨d, d0, d1, by rw [d2.1, d2.2]; rfl⟩
        · have w := a7.2 rfl
          omega
      · refine stay (fun q => absurd q hh) ?_
        rw [f_X7_reachUrnByUrn_L26, lt_y (by omega) (by decide) (by omega), e_isIn hx ⟨i0, by omega⟩, bd_some]
        simp only [jn_e, nm_q]
        rw [if_neg hp, eq_y rfl, e_isHeld h1 hg hx (by omega), bd_some, if_neg hh, eq_y rfl]
theorem rc_cl {r p : Int → Bool} {e : Int → Int → Bool} (hr : ∀ k, 0 ≤ k → k < 24 → r k = true → p k = true) (hc : ∀ c k, (0 ≤ c ∧ c < 24) → 0 ≤ k → k < 24 → p c = true → e c k = true → p k = true) : ∀ (n : Nat) (k : Int), 0 ≤ k → k < 24 → rq_ r e n k = true → p k = true
  | 0, k, k0, k1, h => hr k k0 k1 h
  | n + 1, k, k0, k1, h => by
    rcases rc_or h with h | ⟨b, b01, b2, b3⟩
    · exact rc_cl hr hc n k k0 k1 h
    · exact hc b k b01 k0 k1 (rc_cl hr hc n b b01.1 b01.2 b2) b3
theorem l_11 (h1 : ∀ k, 0 ≤ k → k < 96 → μ 1 k = s (137 + k)) (hg : ∀ k, 0 ≤ k → k < 96 → rg_ (s (137 + k))) {r : Int → Bool} : ∀ (n i : Nat), i + n = 25 → ∀ f : Nat, n < f → ∀ (x b : Int) (p : Int → Bool), mk_ x p → (b = 0 ∨ b = 1) → (∀ k, 0 ≤ k → k < 24 → p k = true → rq_ r (ej_ s) 24 k = true) → (∀ k, 0 ≤ k → k < 24 → rq_ r (ej_ s) i k = true → p k = true) → (b = 0 → ∀ c k, (0 ≤ c ∧ c < 24) → 0 ≤ k → k < 24 → p c = true → ej_ s c k = true → p k = true) → ∃ y, f_X7_reachUrnByUrn_L11 μ f x b i = some y ∧ mk_ y (rq_ r (ej_ s) 24) := by
  intro n
  induction n with
  | zero =>
    intro i hi f hf x b p hx hb hs hc hcl
    obtain ⟨f', rfl⟩ : ∃ f', f = f' + 1 := ⟨f - 1, by omega⟩
    refine ⟨x, ?_, mk_e (fun k k0 k1 => bo_i ⟨hs k k0 k1, fun h => hc k k0 k1 (rc_le (by omega) h)⟩) hx⟩
    rw [f_X7_reachUrnByUrn_L11, lt_y (by decide) (by omega) (by omega)]
  | succ n ih =>
    intro i hi f hf x b p hx hb hs hc hcl
    obtain ⟨f', rfl⟩ : ∃ f', f = f' + 1 := ⟨f - 1, by omega⟩
    obtain ⟨F, hF, hF2⟩ := F_big
    rw [f_X7_reachUrnByUrn_L11, ← hF2, lt_n (by decide) (by omega) (by omega)]
    rcases hb with rfl | rfl
    · rw [eq_y rfl]
      refine ⟨x, rfl, mk_e (fun k k0 k1 => bo_i ⟨hs k k0 k1, fun h => ?_⟩) hx⟩
      exact rc_cl (fun k k0 k1 h => hc k k0 k1 (rc_le (Nat.zero_le _) (show rq_ r (ej_ s) 0 k = true from h))) (hcl rfl) 24 k k0 k1 h
    · rw [eq_n (by decide) (by decide) (by decide), jn_e]
      obtain ⟨x', b', p', a1, a2, a3, a4, a5, a6, a7, a8⟩ := l_26 (J := fun x1_68 x2_68 => nm_ ((i : Int) + 1) (fun n68 => f_X7_reachUrnByUrn_L11 μ f' x1_68 x2_68 n68)) h1 hg (r := r) 24 0 (by decide) (by decide) F (by omega) x 0 p hx (Or.inl rfl) hs
      have q := ih (i + 1) (by omega) f' (by omega) x' b' p' a2 a3 a4 (fun k k0 k1 h => by
        rcases rc_or h with h | ⟨c, c01, c2, c3⟩
        · exact a5 k k0 k1 (hc k k0 k1 h)
        · exact a6 k k0 k1 (ex_i.mpr ⟨c, c01.1, c01.2, by rw [hc c c01.1 c01.2 c2, c3]; rfl⟩)) (fun h0 c k c01 k0 k1 h2 h3 => a6 k k0 k1 (ex_i.mpr ⟨c, c01.1, c01.2, by
          rw [← a7 h0 c c01.1 c01.2, h2, h3]
          rfl⟩))
      rw [a1]
      exact q
theorem p_liveAgain : pf_liveAgain RR_ := fun t μ ν _ hR => by
  have hS := RR_skip t μ ν hR
  obtain ⟨hr, hI⟩ : hr_ μ (ν 1) ∧ iv_ (60 * ((t + 1 : Nat) : Int)) (ν 1) := hS.1
  obtain ⟨x, e1, e2⟩ := e_rootsR hr hI (a := -15) (by decide)
  obtain ⟨F, hF, hF2⟩ := F_big
  obtain ⟨y, e3, e4⟩ := l_11 hr.1 (iv_g1 hI) (r := rt_ (ν 1) (-15)) 25 0 (by decide) F (by omega) x 1 (rt_ (ν 1) (-15)) e2 (Or.inr rfl) (fun k k0 k1 h => rc_le (Nat.zero_le _) (show rq_ _ _ 0 k = true from h)) (fun k k0 k1 h => h) (fun h => absurd h (by decide))
  obtain ⟨z, g, f1, f2⟩ := e_live hI
  have e := mk_eq e4 f2 (fun _ _ _ => rfl)
  refine ⟨z, um_ ν 8 g, ?_, ?_, RR_kk hR (fun _ _ => rfl) (fun q hq => um_ne hq)⟩
  · unfold f_X11_liveAgain f_X7_reachUrnByUrn
    rw [← hF2, e1, bd_some]
    have q : f_X7_reachUrnByUrn_L11 μ F x 1 0 = some y := e3
    rw [q, bd_some, e]
  · unfold f_X12_liveAgain
    rw [f1, bp_some]
theorem p_depth : pf_depth RR_ := fun t μ ν a _ hR ha => by
  have hS := RR_skip t μ ν hR
  obtain ⟨hr, hI⟩ : hr_ μ (ν 1) ∧ iv_ (60 * ((t + 1 : Nat) : Int)) (ν 1) := hS.1
  unfold f_X11_depth f_X12_depth
  rw [e_hasUrn hI.1 hr.2.2.2.1 ha, bd_some, tr_0, e_isUrn hI.1 ha, bd_some, tr_0]
  by_cases u : ur9_ (ν 1) a
  · have a01 := u.1
    obtain ⟨x, e1, e2⟩ := e_rootsR hr hI (a := -15) (by decide)
    obtain ⟨g, a1, a2⟩ := e_measures hI (a := -11) (w := 0) (by decide) (Or.inl rfl)
    have a3 := fr_e (fun c _ _ => rw_0.trans rt_n) a2 a a01.1 a01.2
    obtain ⟨d1, d2⟩ := e_distance hr.1 (iv_ht hI) e2 a01
    rw [if_pos u, if_pos u, e1, bd_some, a1, bd_some, rd_e a01.1 (by omega), um_self]
    rcases a3.2 with ⟨z1, z2, d, z3, z4, z5, z6⟩ | ⟨z1, z2⟩
    · rw [d1 d z3 z5 z6, bd_some, lt_y (by omega) (by decide) z1, rd_e a01.1 (by omega), um_self, z4, Int.add_zero]
      exact ⟨_, _, rfl, rfl, RR_kk hR (fun _ _ => rfl) (fun q hq => um_ne hq)⟩
    · rw [d2 (fun d _ => z2 d), bd_some, lt_n (by omega) (by decide) (by omega)]
      exact ⟨_, _, rfl, rfl, RR_kk hR (fun _ _ => rfl) (fun q hq => um_ne hq)⟩
  · rw [if_neg u, if_neg u]
    exact ⟨_, _, rfl, rfl, hS⟩
theorem p_ring : pf_ring RR_ := fun t μ ν a _ hR ha => by
  have hS := RR_skip t μ ν hR
  obtain ⟨hr, hI⟩ : hr_ μ (ν 1) ∧ iv_ (60 * ((t + 1 : Nat) : Int)) (ν 1) := hS.1
  obtain ⟨F, hF, hF2⟩ := F_big
  have ht := iv_ht hI
  unfold f_X11_ring f_X12_ring
  rw [← hF2, e_hasUrn hI.1 hr.2.2.2.1 ha, bd_some, tr_0, e_isUrn hI.1 ha, bd_some, tr_0]
  by_cases u : ur9_ (ν 1) a
  · have a01 := u.1
    obtain ⟨x, e1, e2⟩ := e_targets hr.1 ht a01
    obtain ⟨d1, d2⟩ := e_distance hr.1 ht e2 a01
    obtain ⟨g1, b1, b2⟩ := l_f13 (ν := ν) (J := fun μ33 => f_X12_ring_L35 (fun μ61 => f_X12_ring_L63 (fun μ138 => rd_ μ138 8 24 a (fun v143 => lt_ v143 99 (rd_ μ138 8 24 a (fun v154 => some (v154, μ138))) (some ((-15), μ138)))) F 0 μ61) a F 0 μ33) 24 0 (by decide) (by decide) F (by omega) (ν 8) (fun k _ _ => by omega)
    obtain ⟨g2, c1, c2⟩ := l_35 (ν := ν) (J := fun μ61 => f_X12_ring_L63 (fun μ138 => rd_ μ138 8 24 a (fun v143 => lt_ v143 99 (rd_ μ138 8 24 a (fun v154 => some (v154, μ138))) (some ((-15), μ138)))) F 0 μ61) ht a01 4 0 (by decide) F (by omega) g1 (fun c c0 c1 => b2 c c0 c1)
    obtain ⟨i1, i2⟩ := in_sn (e := ej_ (ν 1)) (Or.inr rfl) c2
    obtain ⟨g3, f1, f2, f3⟩ := l_ror (ν := ν) (J := fun μ138 => rd_ μ138 8 24 a (fun v143 => lt_ v143 99 (rd_ μ138 8 24 a (fun v154 => some (v154, μ138))) (some ((-15), μ138)))) ht (o := 1) (by decide) 24 0 (by decide) F (by omega) g2 i1 i2
    have q : f_X12_ring_L13 (fun μ33 => f_X12_ring_L35 (fun μ61 => f_X12_ring_L63 (fun μ138 => rd_ μ138 8 24 a (fun v143 => lt_ v143 99 (rd_ μ138 8 24 a (fun v154 => some (v154, μ138))) (some ((-15), μ138)))) F 0 μ61) a F 0 μ33) F 0 (um_ ν 8 (ν 8)) = rd_ (um_ ν 8 g3) 8 24 a (fun v143 => lt_ v143 99 (rd_ (um_ ν 8 g3) 8 24 a (fun v154 => some (v154, um_ ν 8 g3))) (some ((-15), um_ ν 8 g3))) := b1.trans (c1.trans f1)
    rw [um_id, rd_e a01.1 (by omega), um_self] at q
    have a3 := fr_of (by decide) f2 f3 a a01.1 a01.2
    unfold f_X7_ringLength
    rw [if_pos u, if_pos u, e1, bd_some]
    simp only [jn_e]
    rw [q]
    rcases a3.2 with ⟨z1, z2, d, z3, z4, z5, z6⟩ | ⟨z1, z2⟩
    · rw [d1 d z3 z5 z6, bd_some, eq_n (by omega) (by decide) (by omega), bd_some, lt_y (by omega) (by decide) z1, rd_e a01.1 (by omega), um_self, z4]
      exact ⟨_, _, rfl, rfl, RR_kk hR (fun _ _ => rfl) (fun q hq => um_ne hq)⟩
    · rw [d2 (fun d _ => z2 d), bd_some, eq_y rfl, bd_some, lt_n (by omega) (by decide) (by omega)]
      exact ⟨_, _, rfl, rfl, RR_kk hR (fun _ _ => rfl) (fun q hq => um_ne hq)⟩
  · rw [if_neg u, if_neg u]
    exact ⟨_, _, rfl, rfl, hS⟩
theorem or_0 {x : Int} (hx : rg_ x) : or_ x 0 = x := bt_x (iI_rg _) hx (fun i hi => by
  rw [bt_or, bt_z i hi, Bool.or_false])
theorem l_kp (hr : hr_ μ (ν 1)) (hI : iv_ t (ν 1)) {a : Int} (ha : 0 ≤ a ∧ a < 24) : ∀ (n i : Nat), i + n = 6 → ∀ f f2 : Nat, n < f → n < f2 → ∀ x : Int, rg_ x → ∀ g : Int → Int, ∃ (r : Int) (g' : Int → Int), f_X7_neededNames_L17 a μ f x i = some r ∧ f_X12_keepers_L35 a f2 x i (um_ ν 8 g) = some (r, um_ ν 8 g') := by
  intro n
  induction n with
  | zero =>
    intro i hi f f2 hf hf2 x hx g
    obtain ⟨f', rfl⟩ : ∃ f', f = f' + 1 := ⟨f - 1, by omega⟩
    obtain ⟨f2', rfl⟩ : ∃ f', f2 = f' + 1 := ⟨f2 - 1, by omega⟩
    have e : i = 6 := by omega
    subst e
    refine ⟨x, g, ?_, ?_⟩
    · rw [f_X7_neededNames_L17, lt_n (by decide) (by decide) (by decide)]
    · rw [f_X12_keepers_L35, lt_n (by decide) (by decide) (by decide)]
  | succ n ih =>
    intro i hi f f2 hf hf2 x hx g
    obtain ⟨f', rfl⟩ : ∃ f', f = f' + 1 := ⟨f - 1, by omega⟩
    obtain ⟨f2', rfl⟩ : ∃ f', f2 = f' + 1 := ⟨f2 - 1, by omega⟩
    have h1 : (um_ ν 8 g) 1 = ν 1 := um_ne (by decide)
    obtain ⟨y, e1, e2⟩ := e_rootsR hr hI (a := (i : Int)) (by omega)
    obtain ⟨z, e3, e4⟩ := e_reachFrom hr.1 (iv_ht hI) e2
    obtain ⟨g2, a1, a2⟩ := e_measures (ν := um_ ν 8 g) (t := t) (by rw [h1]; exact hI) (a := (i : Int)) (w := 0) (by omega) (Or.inl rfl)
    rw [h1] at a2
    rw [um_um] at a1
    have a3 := fr_e (fun c _ _ => rw_0) a2 a ha.1 ha.2
    rw [f_X7_neededNames_L17, lt_y (by omega) (by decide) (by omega), e1, bd_some, e3, bd_some, e_isIn e4 ha, bd_some, f_X12_keepers_L35, lt_y (by omega) (by decide) (by omega), a1, bd_some, rd_e ha.1 (by omega), um_self]
    simp only [jn_e, nm_q]
    rcases a3.2 with ⟨z1, z2, -⟩ | ⟨z1, z2⟩
    · obtain ⟨r, g', b1, b2⟩ := ih (i + 1) (by omega) f' f2' (by omega) (by omega) x hx g2
      refine ⟨r, g', ?_, ?_⟩
      · rw [z2, if_pos rfl, eq_n (by decide) (by decide) (by decide)]
        exact b1
      · rw [eq_n (by omega) (by decide) (by omega), or_0 hx]
        exact b2
    · obtain ⟨r, g', b1, b2⟩ := ih (i + 1) (by omega) f' f2' (by omega) (by omega) (or_ x (sl_ 1 i)) (iI_rg _) g2
      refine ⟨r, g', ?_, ?_⟩
      · rw [z2 24, if_neg (by decide), eq_y rfl]
        exact b1
      · rw [eq_y z1]
        exact b2
theorem p_keepers : pf_keepers RR_ := fun t μ ν a _ hR ha => by
  have hS := RR_skip t μ ν hR
  obtain ⟨hr, hI⟩ : hr_ μ (ν 1) ∧ iv_ (60 * ((t + 1 : Nat) : Int)) (ν 1) := hS.1
  obtain ⟨F, hF, hF2⟩ := F_big
  unfold f_X11_keepers f_X12_keepers
  rw [← hF2, e_hasUrn hI.1 hr.2.2.2.1 ha, bd_some, tr_0, e_isUrn hI.1 ha, bd_some, tr_0]
  by_cases u : ur9_ (ν 1) a
  · have a01 := u.1
    obtain ⟨y, e1, e2⟩ := e_reach hr hI
    obtain ⟨g, a1, a2⟩ := e_measures hI (a := -11) (w := 0) (by decide) (Or.inl rfl)
    have a3 := fr_e (fun c _ _ => rw_0.trans rt_n) a2 a a01.1 a01.2
    unfold f_X7_neededNames
    rw [if_pos u, if_pos u, ← hF2, e1, bd_some, e_isIn e2 a01, bd_some, a1, bd_some, rd_e a01.1 (by omega), um_self]
    rcases a3.2 with ⟨z1, z2, -⟩ | ⟨z1, z2⟩
    · obtain ⟨r, g', b1, b2⟩ := l_kp (ν := ν) hr hI a01 6 0 (by decide) F F (by omega) (by omega) 0 (by decide) g
      have b1' : f_X7_neededNames_L17 a μ F 0 0 = some r := b1
      have b2' : f_X12_keepers_L35 a F 0 0 (um_ ν 8 g) = some (r, um_ ν 8 g') := b2
      rw [z2, if_pos rfl, eq_n (by decide) (by decide) (by decide), b1', bd_some, eq_n (by omega) (by decide) (by omega), b2']
      exact ⟨_, _, rfl, rfl, RR_kk hR (fun _ _ => rfl) (fun q hq => um_ne hq)⟩
    · rw [z2 24, if_neg (by decide), eq_y rfl, bd_some, eq_y z1]
      exact ⟨_, _, rfl, rfl, RR_kk hR (fun _ _ => rfl) (fun q hq => um_ne hq)⟩
  · rw [if_neg u, if_neg u]
    exact ⟨_, _, rfl, rfl, hS⟩
-- what a round would free
theorem l_lo (hT : iv_T s) (hh : ∀ c, 0 ≤ c → c < 24 → μ 4 c = if s (17 + c) = 0 then -1 else s (41 + c)) {o : Int} {p : Int → Bool} (ho : mk_ o p) : ∀ (n i : Nat), i + n = 24 → ∀ f : Nat, n < f → ∀ x, mk_ x (fun k => ex_ (fun j => (decide (s (17 + j) = 1) && !p j) && decide (k = j)) i) → ∃ y, f_X7_leftOver_L21 o μ f x i = some y ∧ mk_ y (fun k => ex_ (fun j => (decide (s (17 + j) = 1) && !p j) && decide (k = j)) 24) := by
  intro n
  induction n with
  | zero =>
    intro i hi f hf x hx
    obtain ⟨f', rfl⟩ : ∃ f', f = f' + 1 := ⟨f - 1, by omega⟩
    have e : i = 24 := by omega
    subst e
    refine ⟨x, ?_, hx⟩
    rw [f_X7_leftOver_L21, lt_n (by decide) (by decide) (by decide)]
  | succ n ih =>
    intro i hi f hf x hx
    obtain ⟨f', rfl⟩ : ∃ f', f = f' + 1 := ⟨f - 1, by omega⟩
    rw [f_X7_leftOver_L21, lt_y (by omega) (by decide) (by omega), e_hasUrn hT hh (by omega), bd_some]
    simp only [jn_e, nm_q]
    rw [tr_0]
    have stay : (decide (s (17 + (i : Int)) = 1) && !p (i : Int)) = false → ∃ y, f_X7_leftOver_L21 o μ f' x ((i : Int) + 1) = some y ∧ mk_ y (fun k => ex_ (fun j => (decide (s (17 + j) = 1) && !p j) && decide (k = j)) 24) := fun hn => by
      have q := ih (i + 1) (by omega) f' (by omega) x (mk_e (fun k k0 k1 => by
        rw [ex_s, hn, Bool.false_and, Bool.or_false]) hx)
      exact q
    by_cases u : ur9_ s (i : Int)
    · rw [if_pos u, e_isIn ho ⟨by omega, by omega⟩, bd_some]
      by_cases v : p (i : Int) = true
      · rw [if_pos v, eq_n (by decide) (by decide) (by decide)]
        exact stay (by rw [v, Bool.not_true, Bool.and_false])
      · obtain ⟨z, e1, e2⟩ := e_bit (μ := μ) (a := (i : Int)) (Or.inr ⟨by omega, by omega⟩)
        rw [if_neg v, eq_y rfl, e1, bd_some]
        have q := ih (i + 1) (by omega) f' (by omega) (or_ x z) (mk_e (fun k k0 k1 => by
          rw [ex_s, decide_eq_true u.2, Bool.eq_false_iff.mpr v, Bool.not_false, Bool.true_and, Bool.true_and]) (mk_or hx e2))
        exact q
    · rw [if_neg u]
      exact stay (by rw [decide_eq_false (fun z => u ⟨⟨by omega, by omega⟩, z⟩), Bool.false_and])
theorem sl_0 : ∀ c : Nat, c < 24 → sl_ 0 (c : Int) = 0 := by decide +kernel
theorem l_un (hT : iv_T (ν 1)) : ∀ (n i : Nat), i + n = 24 → ∀ f : Nat, n < f → ∀ x, mk_ x (fun k => ex_ (fun j => decide (ν 1 (17 + j) = 1) && decide (k = j)) i) → ∃ y, f_X12_urns_L4 ν f x i = some y ∧ mk_ y (fun k => ex_ (fun j => decide (ν 1 (17 + j) = 1) && decide (k = j)) 24) := by
  intro n
  induction n with
  | zero =>
    intro i hi f hf x hx
    obtain ⟨f', rfl⟩ : ∃ f', f = f' + 1 := ⟨f - 1, by omega⟩
    have e : i = 24 := by omega
    subst e
    refine ⟨x, ?_, hx⟩
    rw [f_X12_urns_L4, lt_n (by decide) (by decide) (by decide)]
  | succ n ih =>
    intro i hi f hf x hx
    obtain ⟨f', rfl⟩ : ∃ f', f = f' + 1 := ⟨f - 1, by omega⟩
    have w := (hT i (by omega) (by omega)).1
    rw [f_X12_urns_L4, lt_y (by omega) (by decide) (by omega), rd_e (by omega) (by omega), nm_q, nm_q]
    rcases w with w | w
    · rw [w, sl_0 i (by omega)]
      have q := ih (i + 1) (by omega) f' (by omega) (or_ x 0) (mk_e (fun k k0 k1 => by
        rw [ex_s, decide_eq_false (by omega), Bool.false_and]) (mk_or hx mk_0))
      exact q
    · rw [w]
      have q := ih (i + 1) (by omega) f' (by omega) (or_ x (sl_ 1 i)) (mk_e (fun k k0 k1 => by
        rw [ex_s, decide_eq_true w, Bool.true_and]) (mk_or hx (mk_s ⟨by omega, by omega⟩)))
      exact q
theorem p_wouldFree : pf_wouldFree RR_ := fun t μ ν _ hR => by
  have hS := RR_skip t μ ν hR
  obtain ⟨hr, hI⟩ : hr_ μ (ν 1) ∧ iv_ (60 * ((t + 1 : Nat) : Int)) (ν 1) := hS.1
  obtain ⟨F, hF, hF2⟩ := F_big
  obtain ⟨x, e1, e2⟩ := e_rootsR hr hI (a := -15) (by decide)
  obtain ⟨x2, e3, e4⟩ := e_byRite hI.1 hr.2.2.2.1 hr.2.2.1 (r := 1) (by decide)
  obtain ⟨z, e5, e6⟩ := e_reachFrom hr.1 (iv_ht hI) (mk_or e2 e4)
  obtain ⟨y, e7, e8⟩ := l_lo hI.1 hr.2.2.2.1 e6 24 0 (by decide) F (by omega) 0 mk_0
  obtain ⟨g, a1, a2⟩ := e_measures hI (a := -11) (w := 1) (by decide) (Or.inr rfl)
  have a3 := fr_99 (fr_e (r' := fun k => rt_ (ν 1) (-15) k || decide (ν 1 (17 + k) = 1 ∧ ν 1 (65 + k) = 1)) (fun c c0 c1 => by
    unfold rw_
    rw [rt_n]
    congr 1
    have w := hI.1 c c0 c1
    by_cases h : ν 1 (65 + c) = 1
    · rw [decide_eq_true (show (1 : Int) = 1 ∧ ν 1 (65 + c) = 1 from ⟨rfl, h⟩), decide_eq_true (show ν 1 (17 + c) = 1 ∧ ν 1 (65 + c) = 1 from ⟨by omega, h⟩)]
    · rw [decide_eq_false (fun q => h q.2), decide_eq_false (fun q => h q.2)]) a2)
  have h1 : (um_ ν 8 g) 1 = ν 1 := um_ne (by decide)
  obtain ⟨v, b1, b2⟩ := e_reached (ν := ν) a3.1
  obtain ⟨u, c1, c2⟩ := l_un (ν := um_ ν 8 g) (by rw [h1]; exact hI.1) 24 0 (by decide) F (by omega) 0 mk_0
  rw [h1] at c2
  refine ⟨y, um_ ν 8 g, ?_, ?_, RR_kk hR (fun _ _ => rfl) (fun q hq => um_ne hq)⟩
  · unfold f_X11_wouldFree f_X7_leftOver
    have q : f_X7_leftOver_L21 z μ F 0 0 = some y := e7
    rw [← hF2, e1, bd_some, e3, bd_some, e5, bd_some, q, bd_some]
  · unfold f_X12_wouldFree f_X12_urns
    have q : f_X12_urns_L4 (um_ ν 8 g) F 0 0 = some u := c1
    rw [← hF2, a1, bd_some, q, bd_some, b1, bd_some]
    congr 2
    refine mk_eq (mk_no c2 b2) e8 (fun k k0 k1 => ?_)
    show (ex_ _ 24 && !decide (g k < 99)) = ex_ _ 24
    rw [ex_one k0 k1, ex_one k0 k1, a3.2 k k0 k1]
end LV
