/-! what can be come to, rings, keepers, what a round would free, the order: what the object answers, told by the row -/
section QP
variable {t : Int} {μ ν : mu_T} {s : Int → Int} {a c : Int}
/-- what can be come to -/
def lv9 (s : Int → Int) (c : Int) : Bool := rq_ (rt_ s (-15)) (ej_ s) 24 c
theorem v_live (hr : hr_ μ s) (hI : iv_ t s) : ∃ y, f_X11_live μ = some y ∧ mk_ y (lv9 s) := by
  obtain ⟨y, e1, e2⟩ := e_reach hr hI
  refine ⟨y, ?_, e2⟩
  unfold f_X11_live
  rw [e1, bd_some]
theorem v_liveAgain (hr : hr_ μ s) (hI : iv_ t s) : ∃ y, f_X11_liveAgain μ = some y ∧ mk_ y (lv9 s) := by
  obtain ⟨x, e1, e2⟩ := e_rootsR hr hI (a := -15) (by decide)
  obtain ⟨F, hF, hF2⟩ := F_big
  obtain ⟨y, e3, e4⟩ := l_11 hr.1 (iv_g1 hI) (r := rt_ s (-15)) 25 0 (by decide) F (by omega) x 1 (rt_ s (-15)) e2 (Or.inr rfl) (fun k k0 k1 h => rc_le (Nat.zero_le _) (show rq_ _ _ 0 k = true from h)) (fun k k0 k1 h => h) (fun h => absurd h (by decide))
  refine ⟨y, ?_, e4⟩
  unfold f_X11_liveAgain f_X7_reachUrnByUrn
  rw [← hF2, e1, bd_some]
  have q : f_X7_reachUrnByUrn_L11 μ F x 1 0 = some y := e3
  rw [q, bd_some]
theorem lst9 {p : Nat → Bool} : ∀ n : Nat, (∃ d, d < n ∧ p d = true ∧ ∀ d', d' < d → p d' = false) ∨ (∀ d, d < n → p d = false)
  | 0 => Or.inr (fun d h => by omega)
  | n + 1 => by
    rcases lst9 n with ⟨d, h1, h2, h3⟩ | h
    · exact Or.inl ⟨d, by omega, h2, h3⟩
    · by_cases hn : p n = true
      · exact Or.inl ⟨n, by omega, hn, h⟩
      · refine Or.inr (fun d hd => ?_)
        by_cases e : d = n
        · rw [e]
          exact Bool.eq_false_iff.mpr hn
        · exact h d (by omega)
theorem v_depth (hr : hr_ μ s) (hI : iv_ t s) (u : ur9_ s a) : ∃ dp, f_X11_depth μ a = some dp ∧ ((lv9 s a = false ∧ dp = -15) ∨ (lv9 s a = true ∧ ∃ d : Nat, dp = d ∧ d < 24 ∧ rq_ (rt_ s (-15)) (ej_ s) d a = true ∧ ∀ d', d' < d → rq_ (rt_ s (-15)) (ej_ s) d' a = false)) := by
  have a01 := u.1
  obtain ⟨x, e1, e2⟩ := e_rootsR hr hI (a := -15) (by decide)
  obtain ⟨d1, d2⟩ := e_distance hr.1 (iv_ht hI) e2 a01
  unfold f_X11_depth
  rw [e_hasUrn hI.1 hr.2.2.2.1 ⟨by omega, by omega⟩, bd_some, tr_0, if_pos u, e1, bd_some]
  rcases lst9 (p := fun d => rq_ (rt_ s (-15)) (ej_ s) d a) 24 with ⟨d, h1, h2, h3⟩ | h
  · refine ⟨d, by rw [d1 d h1 h2 h3, bd_some], Or.inr ⟨rc_le (by omega) h2, d, rfl, h1, h2, h3⟩⟩
  · refine ⟨-15, by rw [d2 h, bd_some], Or.inl ⟨?_, rfl⟩⟩
    by_cases w : lv9 s a = true
    · have w2 := rc_24 a01.1 a01.2 w
      exact absurd (h 23 (by decide)) (by rw [w2]; decide)
    · exact Bool.eq_false_iff.mpr w
theorem v_ring (hr : hr_ μ s) (hI : iv_ t s) (u : ur9_ s a) : ∃ rg, f_X11_ring μ a = some rg ∧ ((rg = -15 ∧ ∀ d, d < 24 → rq_ (ej_ s a) (ej_ s) d a = false) ∨ (∃ d : Nat, rg = d + 1 ∧ d < 24 ∧ rq_ (ej_ s a) (ej_ s) d a = true ∧ ∀ d', d' < d → rq_ (ej_ s a) (ej_ s) d' a = false)) := by
  have a01 := u.1
  obtain ⟨x, e1, e2⟩ := e_targets hr.1 (iv_ht hI) a01
  obtain ⟨d1, d2⟩ := e_distance hr.1 (iv_ht hI) e2 a01
  unfold f_X11_ring f_X7_ringLength
  rw [e_hasUrn hI.1 hr.2.2.2.1 ⟨by omega, by omega⟩, bd_some, tr_0, if_pos u, e1, bd_some]
  rcases lst9 (p := fun d => rq_ (ej_ s a) (ej_ s) d a) 24 with ⟨d, h1, h2, h3⟩ | h
  · refine ⟨(d : Int) + 1, by rw [d1 d h1 h2 h3, bd_some, eq_n (by omega) (by decide) (by omega), bd_some], Or.inr ⟨d, rfl, h1, h2, h3⟩⟩
  · exact ⟨-15, by rw [d2 h, bd_some, eq_y rfl, bd_some], Or.inl ⟨rfl, h⟩⟩
def low6 (x : Int) : Prop := ∀ j : Nat, 6 ≤ j → j < 32 → bt_ x j = false
theorem bt_64 : ∀ i, i < 32 → bt_ (-64) i = decide (6 ≤ i) := by decide +kernel
theorem low_an {x : Int} (h : low6 x) : an_ x (-64) = 0 := bt_x (iI_rg _) (by decide) (fun i hi => by
  rw [bt_an, bt_64 i hi, bt_z i hi]
  by_cases w : 6 ≤ i
  · rw [h i w hi]
    rfl
  · rw [decide_eq_false w, Bool.and_false])
theorem l_kq (hr : hr_ μ s) (hI : iv_ t s) (ha : 0 ≤ a ∧ a < 24) : ∀ (n i : Nat), i + n = 6 → ∀ f : Nat, n < f → ∀ x : Int, low6 x → ∃ r : Int, f_X7_neededNames_L17 a μ f x i = some r ∧ low6 r := by
  intro n
  induction n with
  | zero =>
    intro i hi f hf x hx
    obtain ⟨f', rfl⟩ : ∃ f', f = f' + 1 := ⟨f - 1, by omega⟩
    have e : i = 6 := by omega
    subst e
    refine ⟨x, ?_, hx⟩
    rw [f_X7_neededNames_L17, lt_n (by decide) (by decide) (by decide)]
  | succ n ih =>
    intro i hi f hf x hx
    obtain ⟨f', rfl⟩ : ∃ f', f = f' + 1 := ⟨f - 1, by omega⟩
    obtain ⟨y, e1, e2⟩ := e_rootsR hr hI (a := (i : Int)) ⟨by omega, by omega⟩
    obtain ⟨z, e3, e4⟩ := e_reachFrom hr.1 (iv_ht hI) e2
    rw [f_X7_neededNames_L17, lt_y (by omega) (by decide) (by omega), e1, bd_some, e3, bd_some, e_isIn e4 ha, bd_some]
    simp only [jn_e, nm_q]
    by_cases w : rq_ (rt_ s (i : Int)) (ej_ s) 24 a = true
    · rw [if_pos w, eq_n (by decide) (by decide) (by decide)]
      exact ih (i + 1) (by omega) f' (by omega) x hx
    · rw [if_neg w, eq_y rfl]
      refine ih (i + 1) (by omega) f' (by omega) (or_ x (sl_ 1 i)) (fun j j0 j1 => ?_)
      rw [bt_or, hx j j0 j1, bt_s i (by omega) j j1, decide_eq_false (show ¬ (j : Int) = (i : Int) by omega), Bool.and_false]
      rfl
theorem v_keepers (hr : hr_ μ s) (hI : iv_ t s) (u : ur9_ s a) : ∃ r, f_X11_keepers μ a = some r ∧ low6 r ∧ (lv9 s a = false → r = 0) := by
  have a01 := u.1
  obtain ⟨F, hF, hF2⟩ := F_big
  obtain ⟨y, e1, e2⟩ := e_reach hr hI
  have e2' : mk_ y (lv9 s) := e2
  have l0 : low6 0 := fun j j0 j1 => bt_z j j1
  unfold f_X11_keepers f_X7_neededNames
  rw [e_hasUrn hI.1 hr.2.2.2.1 ⟨by omega, by omega⟩, bd_some, tr_0, if_pos u, ← hF2, e1, bd_some, e_isIn e2' a01, bd_some]
  by_cases w : lv9 s a = true
  · rw [if_pos w, eq_n (by decide) (by decide) (by decide)]
    obtain ⟨r, b1, b2⟩ := l_kq hr hI a01 6 0 (by decide) F (by omega) 0 l0
    have b1' : f_X7_neededNames_L17 a μ F 0 0 = some r := b1
    rw [b1', bd_some]
    exact ⟨r, rfl, b2, fun h => absurd (w.symm.trans h) (by decide)⟩
  · rw [if_neg w, eq_y rfl, bd_some]
    exact ⟨0, rfl, l0, fun _ => rfl⟩
/-- what a round that begins now keeps -/
def kp9 (s : Int → Int) (c : Int) : Bool := rq_ (fun k => rt_ s (-15) k || decide (s (17 + k) = 1 ∧ s (65 + k) = 1)) (ej_ s) 24 c
theorem v_wouldFree (hr : hr_ μ s) (hI : iv_ t s) : ∃ y, f_X11_wouldFree μ = some y ∧ mk_ y (fun k => decide (s (17 + k) = 1) && !kp9 s k) := by
  obtain ⟨F, hF, hF2⟩ := F_big
  obtain ⟨x, e1, e2⟩ := e_rootsR hr hI (a := -15) (by decide)
  obtain ⟨x2, e3, e4⟩ := e_byRite hI.1 hr.2.2.2.1 hr.2.2.1 (r := 1) (by decide)
  obtain ⟨z, e5, e6⟩ := e_reachFrom hr.1 (iv_ht hI) (mk_or e2 e4)
  obtain ⟨y, e7, e8⟩ := l_lo hI.1 hr.2.2.2.1 e6 24 0 (by decide) F (by omega) 0 mk_0
  refine ⟨y, ?_, mk_e (fun k k0 k1 => ex_one k0 k1) e8⟩
  unfold f_X11_wouldFree f_X7_leftOver
  have q : f_X7_leftOver_L21 z μ F 0 0 = some y := e7
  rw [← hF2, e1, bd_some, e3, bd_some, e5, bd_some, q, bd_some]
theorem v_isBalanced (hr : hr_ μ s) (hI : iv_ t s) (hB : iv_B s) : f_X11_isBalanced μ = some 1 := by
  obtain ⟨r1, r2, r3, r4, r5, r6, r7, ⟨r8, r9⟩, ⟨r10, r11⟩, r12, r13, r14, r15, r16, r17, r18, r19⟩ := hr
  obtain ⟨F, hF, hF2⟩ := F_big
  have hC := hI.2.2.2.2.2.2.2.2.1
  have hP := hI.2.1.1
  have e3 : s 3 = nu_ s + s 4 := hC
  have eB : f_X2_hasBlackToWhite μ = f_X2_hasBlackToWhite_L2 μ F 0 := by
    unfold f_X2_hasBlackToWhite
    rw [← hF2]
  obtain ⟨y1, y2⟩ := l_hb hI.1 r4 r1 hI.2.2.1 96 0 (by decide) (by decide) F (by omega)
  have eS : f_X2_isSound μ = some 1 := by
    unfold f_X2_isSound
    rw [nm_q, r15, e_urns hI.1 r4, bd_some, nm_q, r16, eq_y e3, l_au1 hI.1 r4 r1 hI.2.2.1, bd_some, eq_n (by decide) (by decide) (by decide), l_au2 hI.1 r4 r2 (fun c a b => (hI.2.2.2.1 c a b).1), bd_some, eq_n (by decide) (by decide) (by decide), l_au6 hI.1 r4 r6 (fun c a b => (hI.2.2.2.2.1 c a b).1), bd_some, eq_n (by decide) (by decide) (by decide), nm_q, r12]
    by_cases hp : s 0 = 1
    · rw [eq_y hp, eB, y1 (fun k a b z => hB.2.1 hp k a b z.1 z.2.1 z.2.2), bd_some, eq_y rfl]
    · rw [eq_n (by omega) (by decide) hp]
  unfold f_X11_isBalanced
  rw [eS, bd_some, eq_n (by decide) (by decide) (by decide)]
theorem v_meanHeld (hr : hr_ μ s) (hI : iv_ t s) : f_X11_meanHeld μ = some (if nu_ s = 0 then FP.dconst0 else FP.ddiv (FP.i2d (iI (sh_2 s))) (FP.i2d (iI (nu_ s)))) := by
  obtain ⟨r1, r2, r3, r4, r5, r6, -⟩ := hr
  obtain ⟨F, hF, hF2⟩ := F_big
  have hb := nu_b (s := s)
  have hs := sh_b (s := s)
  have eA : f_X2_holdersOfAll μ = some (sh_2 s) := by
    unfold f_X2_holdersOfAll
    rw [← hF2]
    exact l_all hI.1 r4 r1 (iv_g1 hI) r6 (iv_g6 hI) 24 0 (by decide) F (by omega)
  unfold f_X11_meanHeld
  rw [e_urns hI.1 r4, bd_some]
  by_cases h0 : nu_ s = 0
  · rw [eq_y h0, if_pos h0]
  · obtain ⟨f1, f2⟩ := fp_d (sh_2 s).toNat (by omega) (nu_ s).toNat (by omega) (by omega)
    rw [Int.toNat_of_nonneg hs.1, Int.toNat_of_nonneg hb.1] at f1 f2
    rw [eq_n (by omega) (by decide) h0, eA, bd_some, if_neg h0]
    unfold dd_
    rw [if_pos f1]
theorem v_liveShare (hr : hr_ μ s) (hI : iv_ t s) : f_X11_liveShare μ = some (if nu_ s = 0 then FP.fconst0 else FP.fdiv (FP.i2f (iI (cn_ (lv9 s) 24))) (FP.i2f (iI (nu_ s)))) := by
  obtain ⟨F, hF, hF2⟩ := F_big
  obtain ⟨y, e1, e2⟩ := e_reach hr hI
  obtain ⟨Y, y1, y2, y3⟩ := mk_n e2
  have hb := nu_b (s := s)
  have hc0 := cn_0 (lv9 s) 24
  have hc1 := cn_le (lv9 s) 24
  have hbs : (bs_ Y 24 : Int) = cn_ (lv9 s) 24 := bs_cn y3 24 (by decide)
  unfold f_X11_liveShare
  rw [e_urns hI.1 hr.2.2.2.1, bd_some]
  by_cases h0 : nu_ s = 0
  · rw [eq_y h0, if_pos h0]
  · obtain ⟨g1, g2, g3⟩ := fp_f (cn_ (lv9 s) 24).toNat (by omega) (nu_ s).toNat (by omega) (by omega)
    rw [Int.toNat_of_nonneg hc0, Int.toNat_of_nonneg hb.1] at g1 g2 g3
    rw [eq_n (by omega) (by decide) h0, e1, bd_some, y1, e_bits y2, bd_some, hbs, if_neg h0]
    unfold fd_
    rw [if_pos g1]
theorem v_bits {y : Int} {p : Int → Bool} (h : mk_ y p) : f_J6_bitCount_0f7a4 μ y = some (cn_ p 24) := by
  obtain ⟨Y, y1, y2, y3⟩ := mk_n h
  rw [y1, e_bits y2]
  exact congrArg some (bs_cn y3 24 (by decide))
/-- the number of urns that are ahead -/
def rk9 (s : Int → Int) (c : Int) : Int := cn_ (fun o => decide (wt_ s c < wt_ s o)) 24
theorem l_rv (hI : iv_ t s) (hh : ∀ c, 0 ≤ c → c < 24 → μ 4 c = if s (17 + c) = 0 then -1 else s (41 + c)) (hw : ∀ k, 0 ≤ k → k < 24 → μ 137 k = wt_ s k) (ha : rg_ a) : ∀ (n : Nat) (i : Int), 0 ≤ i → i + n = 24 → ∀ f : Nat, n < f → ∃ r : Int, f_X7_urnAtRank_L6 a μ f i = some (r, μ) ∧ ((ur9_ s r ∧ rk9 s r = a) ∨ (r = -11 ∧ ∀ c, i ≤ c → c < 24 → s (17 + c) = 1 → rk9 s c ≠ a)) := by
  intro n
  induction n with
  | zero =>
    intro i i0 hi f hf
    obtain ⟨f', rfl⟩ : ∃ f', f = f' + 1 := ⟨f - 1, by omega⟩
    refine ⟨-11, ?_, Or.inr ⟨rfl, fun c c0 c1 => by omega⟩⟩
    rw [f_X7_urnAtRank_L6, lt_n (by omega) (by decide) (by omega)]
  | succ n ih =>
    intro i i0 hi f hf
    obtain ⟨f', rfl⟩ : ∃ f', f = f' + 1 := ⟨f - 1, by omega⟩
    obtain ⟨r, b1, b2⟩ := ih (i + 1) (by omega) (by omega) f' (by omega)
    have wb := wt_b (s := s) (u := i) ⟨i0, by omega⟩
    have c0 := cn_0 (fun o => decide (wt_ s i < wt_ s o)) 24
    have c1 := cn_le (fun o => decide (wt_ s i < wt_ s o)) 24
    rw [f_X7_urnAtRank_L6, lt_y (by omega) (by decide) (by omega), e_hasUrn hI.1 hh (by omega), bd_some]
    simp only [jn_e, nm_q]
    rw [tr_0]
    have step : (s (17 + i) = 1 → rk9 s i ≠ a) → ((ur9_ s r ∧ rk9 s r = a) ∨ (r = -11 ∧ ∀ c, i ≤ c → c < 24 → s (17 + c) = 1 → rk9 s c ≠ a)) := fun hn => by
      rcases b2 with b2 | ⟨b3, b4⟩
      · exact Or.inl b2
      · refine Or.inr ⟨b3, fun c d0 d1 d2 => ?_⟩
        by_cases e : c = i
        · rw [e] at d2 ⊢
          exact hn d2
        · exact b4 c (by omega) d1 d2
    by_cases u : ur9_ s i
    · rw [if_pos u, rd_e i0 (by omega), hw i i0 (by omega), e_heavier hw (by omega), bd_some]
      by_cases h : cn_ (fun o => decide (wt_ s i < wt_ s o)) 24 = a
      · rw [eq_y h]
        exact ⟨i, rfl, Or.inl ⟨u, h⟩⟩
      · rw [eq_n (by omega) ha h]
        exact ⟨r, b1, step (fun _ => h)⟩
    · rw [if_neg u]
      exact ⟨r, b1, step (fun z => absurd ⟨⟨i0, by omega⟩, z⟩ u)⟩
theorem v_ranked (hr : hr_ μ s) (hI : iv_ t s) (ha : rg_ a) : ∃ (r : Int) (κ : mu_T), f_X11_ranked μ a = some (r, κ) ∧ (∀ q, q ≠ 137 → κ q = μ q) ∧ ((ur9_ s r ∧ rk9 s r = a) ∨ (r = -11 ∧ ∀ c, 0 ≤ c → c < 24 → s (17 + c) = 1 → rk9 s c ≠ a)) := by
  obtain ⟨F, hF, hF2⟩ := F_big
  obtain ⟨κ, a1, a2, a3⟩ := l_wa hI.1 hr.2.2.2.1 hr.1 (iv_g1 hI) hr.2.2.2.2.2.1 (iv_g6 hI) 24 0 (by decide) (by decide) F (by omega) μ (fun _ _ => rfl) (fun k _ _ => by omega)
  obtain ⟨r, b1, b2⟩ := l_rv (μ := κ) hI (by rw [a2 4 (by decide)]; exact hr.2.2.2.1) a3 ha 24 0 (by decide) (by decide) F (by omega)
  refine ⟨r, κ, ?_, a2, b2⟩
  unfold f_X11_ranked f_X7_urnAtRank f_X7_weighAll
  rw [← hF2, a1, bd_some, b1, bp_some]
end QP
