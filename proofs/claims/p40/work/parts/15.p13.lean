/-! the first grey urn is blackened -/
section BK
variable {t : Int} {s : Int → Int} {μ ν : mu_T}
theorem iv_7 {v : Int} (h : iv_ t s) : iv_ t (ur_ s 7 v) := by
  obtain ⟨hT, hP, hH, hW, hM, hD, hG, hL, hC⟩ := h
  have k0 : ∀ j, j ≠ 7 → ur_ s 7 v j = s j := fun j hj => ur_n hj
  exact ⟨iv_T_k (fun j a b => k0 j (by omega)) hT, iv_P_k ⟨k0 0 (by omega), k0 1 (by omega)⟩ hP, iv_H_k (fun j a b => k0 j (by omega)) (fun k a b => Or.inl (k0 _ (by omega))) hH, iv_W_k ⟨k0 0 (by omega), k0 1 (by omega)⟩ (fun j a b => k0 j (by omega)) (fun c a b => Or.inl (k0 _ (by omega))) hW, iv_M_k ⟨k0 0 (by omega), k0 1 (by omega)⟩ (fun j a b => k0 j (by omega)) (fun c a b => Or.inl (k0 _ (by omega))) hM, iv_D_k ⟨k0 0 (by omega), k0 1 (by omega)⟩ (k0 9 (by omega)) (fun j a b => k0 j (by omega)) (fun k a b => k0 _ (by omega)) hD, iv_G_k (k0 0 (by omega)) (k0 8 (by omega)) (fun j a b => k0 j (by omega)) (fun k a b => k0 _ (by omega)) hG, iv_L_k (k0 4 (by omega)) (k0 10 (by omega)) hL, iv_C_k (k0 3 (by omega)) (k0 4 (by omega)) (fun j a b => k0 j (by omega)) hC⟩
theorem ag_7 {c v : Int} (hc : c = -15 ∨ (0 ≤ c ∧ c < 24)) (h8 : 0 ≤ s 8) : ag_ (ur_ s 7 v) c = ur_ (ag_ s c) 7 v := by
  by_cases h : c ≠ -15 ∧ s (41 + c) = 0
  · have e : ur_ s 7 v (41 + c) = s (41 + c) := ur_n (by omega)
    have e8 : ur_ s 7 v 8 = s 8 := ur_n (by omega)
    rw [ag_w h, ag_w (by rw [e]; exact h), e8]
    funext j
    simp only [ur_]
    omega
  · have e : c ≠ -15 → ur_ s 7 v (41 + c) = s (41 + c) := fun q => ur_n (by omega)
    rw [ag_b h, ag_b (fun q => h ⟨q.1, by rw [← e q.1]; exact q.2⟩)]
/-- the heap but for the number of its parts -/
def hq_ (v : Int) (μ : mu_T) (s : Int → Int) : Prop := hr_ μ (ur_ s 7 v)
theorem ur_id {i : Int} : ur_ s i (s i) = s := by
  funext j
  unfold ur_
  by_cases h : j = i
  · rw [if_pos h, h]
  · rw [if_neg h]
theorem ur_ur {i v w : Int} : ur_ (ur_ s i v) i w = ur_ s i w := by
  funext j
  unfold ur_
  by_cases h : j = i
  · rw [if_pos h, if_pos h]
  · rw [if_neg h, if_neg h, if_neg h]
theorem ur_co {i j v w : Int} (h : i ≠ j) : ur_ (ur_ s i v) j w = ur_ (ur_ s j w) i v := by
  funext k
  unfold ur_
  by_cases h1 : k = j
  · rw [if_pos h1, if_neg (by omega), if_pos h1]
  · rw [if_neg h1]
    by_cases h2 : k = i
    · rw [if_pos h2, if_pos h2]
    · rw [if_neg h2, if_neg h2, if_neg h1]
theorem hq_in (hr : hr_ μ s) : hq_ (s 7) μ (ur_ s 7 (s 7 + 1)) := by
  unfold hq_
  rw [ur_ur, ur_id]
  exact hr
theorem hq_out {v : Int} (h : hq_ v μ s) (h7 : s 7 = v + 1) : μ 0 16 = v ∧ hr_ (st_ μ 0 16 (v + 1)) s := by
  refine ⟨?_, ?_⟩
  · have q := h.2.2.2.2.2.2.2.2.2.2.2.2.2.2.2.2
    rw [ur_y] at q
    exact q
  · have q := hr_sc (j := 7) (v := v + 1) h ⟨by omega, by omega, by omega⟩
    rw [ur_ur, ← h7, ur_id] at q
    rw [← h7]
    exact q
/-- how many urns are white -/
def wh_ (s : Int → Int) : Int := cn_ (fun c => decide (s (17 + c) = 1 ∧ s (41 + c) = 0)) 24
theorem wh_0 : 0 ≤ wh_ s ∧ wh_ s ≤ 24 := ⟨cn_0 _ _, cn_le _ _⟩
theorem ag_ms {c : Int} (hG : iv_G s) (hc : ft_ s c) : ag_ s c 8 + 2 * wh_ (ag_ s c) ≤ s 8 + 2 * wh_ s ∧ (c ≠ -15 → s (41 + c) = 0 → ag_ s c 8 + 2 * wh_ (ag_ s c) + 1 ≤ s 8 + 2 * wh_ s) := by
  by_cases h : c ≠ -15 ∧ s (41 + c) = 0
  · have hb := ft_in hc h.1
    have e17 : s (17 + c) = 1 := by
      rcases hc with q | q
      · exact absurd q h.1
      · exact q.2.2
    have e8 : ag_ s c 8 = s 8 + 1 := by rw [ag_w h, ur_y]
    have o17 : ∀ x, 0 ≤ x → x < 24 → ag_ s c (17 + x) = s (17 + x) := fun x a b => ag_o hG (Or.inr hb) (by omega) (by omega) (by omega)
    have e : wh_ (ag_ s c) = wh_ s - 1 := by
      unfold wh_
      have q := cn_up (p := fun x => decide (s (17 + x) = 1 ∧ s (41 + x) = 0)) (q := fun x => decide (ag_ s c (17 + x) = 1 ∧ ag_ s c (41 + x) = 0)) hb.1 24 (fun x x0 x1 xn => by
        show decide (_ ∧ _) = decide (_ ∧ _)
        rw [o17 x x0 (by omega), ag_col hG (Or.inr hb) x0 (by omega), if_neg (fun q => xn q.1)])
      have e1 : decide (ag_ s c (17 + c) = 1 ∧ ag_ s c (41 + c) = 0) = false := by
        rw [ag_col hG (Or.inr hb) hb.1 hb.2, if_pos ⟨rfl, h.2⟩]
        exact decide_eq_false (fun q => absurd q.2 (by decide))
      have e2 : decide (s (17 + c) = 1 ∧ s (41 + c) = 0) = true := decide_eq_true ⟨e17, h.2⟩
      rw [q, if_pos (by omega), e1, e2, if_neg (by decide), if_pos rfl]
      omega
    omega
  · rw [ag_b h]
    exact ⟨Int.le_refl _, fun a b => absurd ⟨a, b⟩ h⟩
theorem q_makeGrey {c v : Int} (hr : hq_ v μ s) (hI : iv_ t s) (hp : s 0 = 1) (hc : ft_ s c) : ∃ μ1, f_X2_makeGrey μ c = some μ1 ∧ hq_ v μ1 (ag_ s c) ∧ iv_ t (ag_ s c) ∧ gr_ (fun x => x = c) s (ag_ s c) ∧ ag_ s c 0 = 1 ∧ (ag_ s c 8 + 2 * wh_ (ag_ s c) ≤ s 8 + 2 * wh_ s) ∧ ∀ k, 12 ≤ k → μ1 k = μ k := by
  have hI7 := iv_7 (v := v) hI
  have hG := hI.2.2.2.2.2.2.1
  have hc7 : ft_ (ur_ s 7 v) c := ft_k (fun j a b => ur_n (by omega)) hc
  obtain ⟨μ1, a1, a2, a3⟩ := c_makeGrey hr hI7.1 hc7 ⟨hI7.2.2.2.2.2.2.1.1.2, hI7.2.2.2.2.2.2.1.1.1⟩
  rw [ag_7 (ft_or hc) hG.1.1] at a2
  exact ⟨μ1, a1, a2, ag_iv hp hI hc, gr_ag hG (ft_or hc), (ag_o hG (ft_or hc) (by omega) (by omega) (by omega)).trans hp, (ag_ms hG hc).1, a3⟩
theorem m_grey {c : Int} (hI : iv_ t s) (hc : ft_ s c) : f_X12_greysIfWhite (um_ ν 1 s) c = some (um_ ν 1 (ag_ s c)) := by
  have e := e_greysIfWhite (ν := um_ ν 1 s) (ft_or hc) (by rw [um_self]; exact hI.1) (by rw [um_self]; exact g_le hI.2.2.2.2.2.2.1)
  rw [um_self, um_um] at e
  exact e
theorem l_bg {c v : Int} (hc : 0 ≤ c ∧ c < 24) : ∀ (n : Nat) (i : Int), 0 ≤ i → i + n = 4 → ∀ f : Nat, n < f → ∀ (μ : mu_T) (s : Int → Int), hq_ v μ s → iv_ t s → s 0 = 1 → ∃ (μ' : mu_T) (s' : Int → Int), f_X10_blackenFirst_L31 c f i μ = some μ' ∧ f_X12_blackens_L90 c f i (um_ ν 1 s) = some (um_ ν 1 s') ∧ hq_ v μ' s' ∧ iv_ t s' ∧ gr_ (fun x => ∃ k, i ≤ k ∧ k < 4 ∧ s (137 + (c * 4 + k)) = x) s s' ∧ s' 0 = 1 ∧ s' 8 + 2 * wh_ s' ≤ s 8 + 2 * wh_ s ∧ ∀ k, 12 ≤ k → μ' k = μ k := by
  intro n
  induction n with
  | zero =>
    intro i i0 hi f hf μ s hr hI hp
    obtain ⟨f', rfl⟩ : ∃ f', f = f' + 1 := ⟨f - 1, by omega⟩
    refine ⟨μ, s, ?_, ?_, hr, hI, gr_zz (fun x q => by obtain ⟨k, q0, q1, -⟩ := q; omega), hp, Int.le_refl _, fun _ _ => rfl⟩
    · rw [f_X10_blackenFirst_L31, lt_n (by omega) (by decide) (by omega)]
    · rw [f_X12_blackens_L90, lt_n (by omega) (by decide) (by omega)]
  | succ n ih =>
    intro i i0 hi f hf μ s hr hI hp
    obtain ⟨f', rfl⟩ : ∃ f', f = f' + 1 := ⟨f - 1, by omega⟩
    have hv := hI.2.2.1 (c * 4 + i) (by omega) (by omega)
    obtain ⟨μ1, a1, a2, a3, a4, a5, a6, a7⟩ := q_makeGrey hr hI hp hv
    obtain ⟨μ', s', b1, b2, b3, b4, b5, b6, b7, b8⟩ := ih (i + 1) (by omega) (by omega) f' (by omega) μ1 _ a2 a3 a5
    have hgr : gr_ (fun x => ∃ k, i ≤ k ∧ k < 4 ∧ s (137 + (c * 4 + k)) = x) s s' := gr_t a4 b5 (fun x => ⟨fun q => by
        obtain ⟨k, q0, q1, q2⟩ := q
        by_cases hk : k = i
        · exact Or.inl (by rw [← q2, hk])
        · exact Or.inr ⟨k, by omega, q1, by rw [a4.1 (137 + (c * 4 + k)) (by omega) (by omega) (by omega)]; exact q2⟩, fun q => by
        rcases q with q | ⟨k, q0, q1, q2⟩
        · exact ⟨i, Int.le_refl _, by omega, q.symm⟩
        · rw [a4.1 (137 + (c * 4 + k)) (by omega) (by omega) (by omega)] at q2
          exact ⟨k, by omega, q1, q2⟩⟩)
    refine ⟨μ', s', ?_, ?_, b3, b4, hgr, b6, by omega, fun k hk => (b8 k hk).trans (a7 k hk)⟩
    · have e := e_target (μ := μ) (s := s) (fun k x y => by
        have q := hr.1 k x y
        rw [ur_n (by omega)] at q
        exact q) (a := c) (b := i) (by omega) (by omega)
      rw [f_X10_blackenFirst_L31, lt_y (by omega) (by decide) (by omega), e, bd_some, if_pos ⟨hc, i0, by omega⟩, a1, bd_some, nm_q, b1]
    · have ei : (137 + (4 * c)) + i = 137 + (c * 4 + i) := by omega
      rw [f_X12_blackens_L90, lt_y (by omega) (by decide) (by omega), e_at, bd_some, rd_e (by omega) (by omega), um_self, ei, m_grey hI hv, bd_some, nm_q, b2]
theorem l_bs {J : mu_T → Option mu_T} {N : Int} (hN : N ≤ 23) : ∀ (n : Nat) (i : Int), 0 ≤ i → i + n = N → ∀ f : Nat, n < f → ∀ s : Int → Int, s 8 = N → f_X12_blackens_L22 J f i (um_ ν 1 s) = J (um_ ν 1 (sh_ s 233 i N)) := by
  intro n
  induction n with
  | zero =>
    intro i i0 hi f hf s hs
    obtain ⟨f', rfl⟩ : ∃ f', f = f' + 1 := ⟨f - 1, by omega⟩
    have e : sh_ s 233 i N = s := by
      funext j
      simp only [sh_]
      omega
    rw [f_X12_blackens_L22, rd_e (by omega) (by omega), um_self, hs, lt_n (by omega) (by omega) (by omega), e]
  | succ n ih =>
    intro i i0 hi f hf s hs
    obtain ⟨f', rfl⟩ : ∃ f', f = f' + 1 := ⟨f - 1, by omega⟩
    rw [f_X12_blackens_L22, rd_e (by omega) (by omega), um_self, hs, lt_y (by omega) (by omega) (by omega), rd_e (by omega) (by omega), um_self, wr_e (by omega) (by omega), st_um, nm_q, ih (i + 1) (by omega) (by omega) f' (by omega) _ (by rw [ur_n (by omega)]; exact hs)]
    congr 2
    funext j
    simp only [sh_, ur_]
    by_cases hj : j = 233 + i
    · subst hj
      simp only [if_true] <;> omega
    · omega
/-- the row behind the first grey urn's turning black -/
def bk_ (s : Int → Int) : Int → Int := ur_ (ur_ (sh_ (ur_ s 8 (s 8 - 1)) 233 0 (s 8 - 1)) (233 + (s 8 - 1)) 0) (41 + s 233) 2
theorem bk_7 {v : Int} (h8 : 0 < s 8 ∧ s 8 ≤ 24) (hc : 0 ≤ s 233 ∧ s 233 < 24) : bk_ (ur_ s 7 v) = ur_ (bk_ s) 7 v := by
  have e8 : ur_ s 7 v 8 = s 8 := ur_n (by omega)
  have e233 : ur_ s 7 v 233 = s 233 := ur_n (by omega)
  unfold bk_
  rw [e8, e233]
  funext j
  simp only [sh_, ur_]
  omega
theorem bk_iv (hI : iv_ t s) (hp : s 0 = 1) (h8 : 0 < s 8) : iv_ t (bk_ s) ∧ bk_ s 0 = 1 ∧ bk_ s 4 = s 4 ∧ bk_ s 7 = s 7 ∧ bk_ s 8 + 2 * wh_ (bk_ s) + 1 ≤ s 8 + 2 * wh_ s := by
  obtain ⟨hT, hP, hH, hW, hM, hD, hG, hL, hC⟩ := hI
  have hle := g_le hG
  have hd := d_le hD
  obtain ⟨⟨g0, g1⟩, g2, g3, g4⟩ := hG
  obtain ⟨c0, c1⟩ := g2 0 (by omega) h8
  rw [Int.add_zero] at c0 c1
  have low : ∀ j, j < 41 → j ≠ 8 → bk_ s j = s j := fun j a b => by
    simp only [bk_, sh_, ur_] <;> omega
  have mid : ∀ j, 65 ≤ j → (j < 233 ∨ 257 ≤ j) → bk_ s j = s j := fun j a b => by
    simp only [bk_, sh_, ur_] <;> omega
  have e8 : bk_ s 8 = s 8 - 1 := by
    simp only [bk_, sh_, ur_, if_true] <;> omega
  have e41 : ∀ x, 0 ≤ x → x < 24 → bk_ s (41 + x) = if x = s 233 then 2 else s (41 + x) := fun x a b => by
    simp only [bk_, sh_, ur_] <;> omega
  have e233 : ∀ k, 0 ≤ k → k < s 8 - 1 → bk_ s (233 + k) = s (233 + (k + 1)) := fun k a b => by
    have e : (233 : Int) + k + 1 = 233 + (k + 1) := by omega
    simp only [bk_, sh_, ur_, e] <;> omega
  have e0 := low 0 (by omega) (by omega)
  have e1 := low 1 (by omega) (by omega)
  have sfk : ∀ x, 0 ≤ x → x < 24 → sf_ s x → sf_ (bk_ s) x := fun x a b h => by
    refine ⟨fun _ => ?_, fun z => by rw [e0] at z; omega⟩
    rw [e41 x a b]
    have q := h.1 hp
    split <;> omega
  refine ⟨⟨fun x x0 x1 => ?_, iv_P_k ⟨e0, e1⟩ hP, iv_H_k (fun j a b => low j (by omega) (by omega)) (fun k a b => Or.inl (mid _ (by omega) (by omega))) hH, fun x x0 x1 => ?_, fun k k0 k1 => ?_, ⟨⟨?_, ?_⟩, fun k k0 k1 => ?_, fun j k j0 jk k1 => ?_, fun x x0 x1 hx => ?_⟩, ⟨⟨by omega, ?_⟩, fun k k0 k1 => ?_, fun j k j0 jk k1 => ?_, fun z => by rw [e0] at z; exact absurd hp z⟩, iv_L_k (low 4 (by omega) (by omega)) (low 10 (by omega) (by omega)) hL, iv_C_k (low 3 (by omega) (by omega)) (low 4 (by omega) (by omega)) (fun j a b => low j (by omega) (by omega)) hC⟩, e0.trans hp, low 4 (by omega) (by omega), low 7 (by omega) (by omega), ?_⟩
  · rw [low (17 + x) (by omega) (by omega), mid (65 + x) (by omega) (by omega), e41 x x0 x1]
    have q := hT x x0 x1
    have q2 := hT _ c0.1 c0.2
    by_cases hx : x = s 233
    · subst hx
      rw [if_pos rfl]
      omega
    · rw [if_neg hx]
      exact q
  · rw [mid (113 + x) (by omega) (by omega)]
    exact ⟨ft_k (fun j a b => low j (by omega) (by omega)) (hW x x0 x1).1, fun z => by rw [e0] at z; omega⟩
  · rw [low (11 + k) (by omega) (by omega)]
    have q := hM k k0 k1
    refine ⟨ft_k (fun j a b => low j (by omega) (by omega)) q.1, fun z => ?_⟩
    have hb := ft_in q.1 z
    exact sfk _ hb.1 hb.2 (q.2 z)
  · rw [low 9 (by omega) (by omega)]
    exact hD.1.1
  · rw [low 9 (by omega) (by omega), hD.1.2]
    exact cn_eq 24 (fun x a b => by rw [mid (65 + x) (by omega) (by omega)])
  · rw [low 9 (by omega) (by omega)] at k1
    obtain ⟨q0, q1, q2⟩ := hD.2.1 k k0 k1
    rw [mid (257 + k) (by omega) (by omega), mid _ (by omega) (by omega)]
    exact ⟨q0, q1, sfk _ q0.1 q0.2 q2⟩
  · rw [low 9 (by omega) (by omega)] at k1
    rw [mid (257 + j) (by omega) (by omega), mid (257 + k) (by omega) (by omega)]
    exact hD.2.2.1 j k j0 jk k1
  · rw [mid _ (by omega) (by omega)] at hx
    obtain ⟨k, q0, q1, q2⟩ := hD.2.2.2 x x0 x1 hx
    exact ⟨k, q0, by rw [low 9 (by omega) (by omega)]; exact q1, by rw [mid _ (by omega) (by omega)]; exact q2⟩
  · have e := cn_up (p := fun x => decide (s (41 + x) = 1)) (q := fun x => decide (bk_ s (41 + x) = 1)) c0.1 24 (fun x x0 x1 xn => by
      show decide (bk_ s (41 + x) = 1) = decide (s (41 + x) = 1)
      rw [e41 x x0 (by omega), if_neg xn])
    have e1 : decide (bk_ s (41 + s 233) = 1) = false := by
      rw [e41 _ c0.1 c0.2, if_pos rfl]
      rfl
    have e2 : decide (s (41 + s 233) = 1) = true := by
      rw [c1]
      rfl
    rw [e, e8, if_pos (by omega), ← g1, e1, e2, if_neg (by decide), if_pos rfl]
    omega
  · rw [e8] at k1
    rw [e233 k k0 k1]
    obtain ⟨q0, q1⟩ := g2 (k + 1) (by omega) (by omega)
    have hn := g3 0 (k + 1) (by omega) (by omega) (by omega)
    rw [Int.add_zero] at hn
    exact ⟨q0, by rw [e41 _ q0.1 q0.2, if_neg (Ne.symm hn)]; exact q1⟩
  · rw [e8] at k1
    rw [e233 j j0 (by omega), e233 k (by omega) k1]
    exact g3 (j + 1) (k + 1) (by omega) (by omega) (by omega)
  · have e : wh_ (bk_ s) = wh_ s := by
      unfold wh_
      refine cn_eq 24 (fun x x0 x1 => ?_)
      rw [low (17 + x) (by omega) (by omega), e41 x x0 (by omega)]
      by_cases hx : x = s 233
      · subst hx
        rw [if_pos rfl, c1]
        exact (decide_eq_false (fun q => absurd q.2 (by decide))).trans (decide_eq_false (fun q => absurd q.2 (by decide))).symm
      · rw [if_neg hx]
    omega
theorem hr_bk (hr : hr_ μ s) (hle : 0 < s 8 ∧ s 8 ≤ 24) (hc : 0 ≤ s 233 ∧ s 233 < 24) (hu : s (17 + s 233) = 1) (h9 : s 9 ≤ 24) (hL : iv_L s) : hr_ (um_ (um_ (um_ μ 8 (ur_ (μ 8) 1 (s 8 - 1))) 9 (fun j => if 0 ≤ j ∧ j < 0 + (s 8 - 1) then μ 9 (1 + (j - 0)) else μ 9 j)) 4 (ur_ (μ 4) (s 233) 2)) (bk_ s) := by
  obtain ⟨r1, r2, r3, r4, r5, r6, r7, ⟨r8, r9⟩, ⟨r10, r11⟩, r12, r13, r14, r15, r16, r17, r18, r19⟩ := hr
  obtain ⟨l1, l2, l3⟩ := hL
  refine ⟨fun k k0 k1 => ?_, fun k k0 k1 => ?_, fun k k0 k1 => ?_, fun k k0 k1 => ?_, fun k k0 k1 kt => ?_, fun k k0 k1 => ?_, fun k k0 k1 => ?_, ⟨?_, fun k k0 k1 => ?_⟩, ⟨?_, fun k k0 k1 => ?_⟩, ?_, ?_, ?_, ?_, ?_, ?_, ?_, ?_⟩
  · have q := r1 k k0 k1
    show (μ 1) k = _
    simp only [bk_, sh_, ur_, if_true] <;> omega
  · have q := r2 k k0 k1
    show (μ 2) k = _
    simp only [bk_, sh_, ur_, if_true] <;> omega
  · have q := r3 k k0 k1
    show (μ 3) k = _
    simp only [bk_, sh_, ur_, if_true] <;> omega
  · have q := r4 k k0 k1
    show (ur_ (μ 4) (s 233) 2) k = _
    by_cases hk : k = s 233
    · subst hk
      simp only [bk_, sh_, ur_, if_true, if_true] <;> omega
    · skip
      simp only [bk_, sh_, ur_, if_true] <;> omega
  · have q := r5 k k0 k1
    show (μ 5) k = _
    simp only [bk_, sh_, ur_, if_true] at kt ⊢ <;> omega
  · have q := r6 k k0 k1
    show (μ 6) k = _
    simp only [bk_, sh_, ur_, if_true] <;> omega
  · have q := r7 k k0
    rw [show (bk_ s) 4 = s 4 from by simp only [bk_, sh_, ur_, if_true] <;> omega]
    show (μ 7) _ = _
    simp only [bk_, sh_, ur_, if_true] at k1 ⊢ <;> omega
  · show (ur_ (μ 8) 1 (s 8 - 1)) 1 = _
    simp only [bk_, sh_, ur_, if_true] <;> omega
  · have q := r9 k k0
    show (fun j => if 0 ≤ j ∧ j < 0 + (s 8 - 1) then μ 9 (1 + (j - 0)) else μ 9 j) k = _
    have q2 := r9 (k + 1) (by omega)
    have e : (233 : Int) + k + 1 = 233 + (k + 1) := by omega
    have e2 : 1 + (k - 0) = k + 1 := by omega
    simp only [e2]
    simp only [bk_, sh_, ur_, if_true, e] at k1 ⊢ <;> omega
  · show (μ 10) 1 = _
    simp only [bk_, sh_, ur_, if_true] <;> omega
  · have q := r11 k k0
    show (μ 11) k = _
    simp only [bk_, sh_, ur_, if_true] at k1 ⊢ <;> omega
  · show (μ 0) 9 = _
    simp only [bk_, sh_, ur_, if_true] <;> omega
  · show (μ 0) 10 = _
    simp only [bk_, sh_, ur_, if_true] <;> omega
  · show (μ 0) 11 = _
    simp only [bk_, sh_, ur_, if_true] <;> omega
  · show (μ 0) 12 = _
    simp only [bk_, sh_, ur_, if_true] <;> omega
  · show (μ 0) 13 = _
    simp only [bk_, sh_, ur_, if_true] <;> omega
  · show (μ 0) 14 = _
    simp only [bk_, sh_, ur_, if_true] <;> omega
  · show (μ 0) 15 = _
    simp only [bk_, sh_, ur_, if_true] <;> omega
  · show (μ 0) 16 = _
    simp only [bk_, sh_, ur_, if_true] <;> omega
/-- the part that blackens, on both sides -/
theorem c_black {v : Int} (hr : hq_ v μ s) (hI : iv_ t s) (hp : s 0 = 1) (h8 : 0 < s 8) : ∃ (μ' : mu_T) (s' : Int → Int), f_X10_blackenFirst μ = some μ' ∧ f_X12_blackens (um_ ν 1 s) = some (um_ ν 1 s') ∧ hq_ v μ' s' ∧ iv_ t s' ∧ s' 0 = 1 ∧ s' 4 = s 4 ∧ s' 7 = s 7 ∧ s' 8 + 2 * wh_ s' + 1 ≤ s 8 + 2 * wh_ s ∧ (∀ k, 12 ≤ k → μ' k = μ k) ∧ bS s s' := by
  have hG := hI.2.2.2.2.2.2.1
  have hle := g_le hG
  obtain ⟨c0, c1⟩ := hG.2.1 0 (by omega) h8
  rw [Int.add_zero] at c0 c1
  have hu : s (17 + s 233) = 1 := by
    have q := hI.1 _ c0.1 c0.2
    omega
  have z7 : ∀ j, j ≠ 7 → ur_ s 7 v j = s j := fun j hj => ur_n hj
  have hb := hr_bk hr (by rw [z7 8 (by omega)]; omega) (by rw [z7 233 (by omega)]; exact c0) (by rw [z7 233 (by omega), z7 _ (by omega)]; exact hu) (by rw [z7 9 (by omega)]; exact d_le hI.2.2.2.2.2.1) (iv_7 hI).2.2.2.2.2.2.2.1
  rw [bk_7 ⟨h8, hle.2⟩ c0, z7 8 (by omega), z7 233 (by omega)] at hb
  obtain ⟨b1, b2, b3, b4, b5⟩ := bk_iv hI hp h8
  obtain ⟨F, hF, hF2⟩ := F_big
  have r8 := hr.2.2.2.2.2.2.2.1
  rw [z7 8 (by omega)] at r8
  have q9 := r8.2 0 (by omega) (by omega)
  rw [Int.add_zero, z7 233 (by omega)] at q9
  generalize hm : um_ (um_ (um_ μ 8 (ur_ (μ 8) 1 (s 8 - 1))) 9 (fun j => if 0 ≤ j ∧ j < 0 + (s 8 - 1) then μ 9 (1 + (j - 0)) else μ 9 j)) 4 (ur_ (μ 4) (s 233) 2) = μ1 at hb
  obtain ⟨μ', s', a1, a2, a3, a4, a5, a6, a7, a8⟩ := l_bg (t := t) (ν := ν) (v := v) c0 4 0 (by decide) (by decide) F (by omega) μ1 (bk_ s) hb b1 b2
  refine ⟨μ', s', ?_, ?_, a3, a4, a6, ?_, ?_, by omega, fun k hk => ?_, ?_⟩
  · unfold f_X10_blackenFirst f_X9_takeFirst
    rw [← hF2, nm_q, r8.1, lt_y (by decide) (by omega) h8, rd_e (by omega) (by omega), nm_q, wf_e, nm_q, st_s, if_pos rfl, q9]
    unfold ac_
    rw [if_pos ⟨by omega, by omega, by omega, by omega, by omega⟩, bp_some, e_isCell (by omega), bd_some, tr_0, if_pos c0, wr_e (by omega) (by omega)]
    show f_X10_blackenFirst_L31 (s 233) F 0 (um_ (um_ (um_ μ 8 _) 9 _) 4 _) = _
    rw [← a1, ← hm]
    rfl
  · have z8 : sh_ (ur_ s 8 (s 8 - 1)) 233 0 (s 8 - 1) 8 = s 8 - 1 := by
      simp only [sh_, ur_, if_true] <;> omega
    unfold f_X12_blackens
    rw [← hF2, rd_e (by omega) (by omega), rd_e (by omega) (by omega), um_self, wr_e (by omega) (by omega), st_um, jn_e, l_bs (N := s 8 - 1) (by omega) (s 8 - 1).toNat 0 (by decide) (by omega) F (by omega) _ ur_y, rd_e (by omega) (by omega), um_self, z8, wr_e (by omega) (by omega), st_um, wr_e (by omega) (by omega), st_um]
    exact a2
  · rw [a5.1 4 (by omega) (by omega) (by omega), b3]
  · rw [a5.1 7 (by omega) (by omega) (by omega), b4]
  · rw [a8 k hk, ← hm, um_ne (by omega), um_ne (by omega), um_ne (by omega)]
  · have bo : ∀ j, j ≠ 8 → (j < 41 ∨ 65 ≤ j) → (j < 233 ∨ 257 ≤ j) → bk_ s j = s j := fun j x y z => by
      simp only [bk_, sh_, ur_] <;> omega
    have bc : ∀ x, 0 ≤ x → x < 24 → bk_ s (41 + x) = if x = s 233 then 2 else s (41 + x) := fun x y z => by
      simp only [bk_, sh_, ur_] <;> omega
    refine ⟨hp, a6, h8, s 233, c0, c1, fun j _ j8 j1 j2 => (a5.1 j j8 j1 j2).trans (bo j j8 j1 j2), ?_, fun x x0 x1 hx => ?_⟩
    · have e := bc _ c0.1 c0.2
      rw [if_pos rfl] at e
      rw [a5.2.1 _ c0.1 c0.2 (by rw [e]; decide), e]
    · have e := bc x x0 x1
      rw [if_neg hx] at e
      rw [← e]
      refine ⟨fun q => a5.2.1 x x0 x1 q, fun q => ?_⟩
      have w := a5.2.2 x x0 x1 q
      refine ⟨fun ⟨k, k0, k1, k2⟩ => w.1 ⟨k, k0, k1, by rw [bo (137 + (s 233 * 4 + k)) (by omega) (by omega) (by omega)]; exact k2⟩, fun n => w.2 (fun ⟨k, k0, k1, k2⟩ => n ⟨k, k0, k1, by rw [bo (137 + (s 233 * 4 + k)) (by omega) (by omega) (by omega)] at k2; exact k2⟩)⟩
end BK
