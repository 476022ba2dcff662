/-! the program reads an order -/
section PR
variable {μ ν : mu_T} {T : Int → Int} {L a : Int}
/-- the form j fits at a, and the order ends behind it -/
abbrev gd9_ (T : Int → Int) (L a j : Int) : Prop := (mt_ T L (fk9_ j) a).1 = true ∧ (L ≤ (mt_ T L (fk9_ j) a).2.1 ∨ T (mt_ T L (fk9_ j) a).2.1 = 59)
def f7_ (μ μ' : mu_T) : Prop := (∀ q, q ≠ 140 → q ≠ 147 → μ' q = μ q) ∧ ∀ j, j ≠ 7 → μ' 140 j = μ 140 j
theorem f7_t {μ2 μ3 : mu_T} (h : f7_ μ μ2) (h2 : f7_ μ2 μ3) : f7_ μ μ3 := ⟨fun q a b => (h2.1 q a b).trans (h.1 q a b), fun j a => (h2.2 j a).trans (h.2 j a)⟩
theorem e_end {p : Int} (hx : xt_ μ T L) (hp : μ 140 7 = p) (p0 : 0 ≤ p) (p1 : p ≤ L) : f_X6_isOrderEnd μ = some (if L ≤ p ∨ T p = 59 then 1 else 0) := by
  obtain ⟨h1, h2, h3⟩ := hx
  unfold f_X6_isOrderEnd
  rw [nm_q (μ 140 7), e_ln141 h1, bd_some, hp]
  by_cases h : p < L
  · have w := h2 p p0 h
    rw [lt_y (by omega) (by omega) h, nm_q, e_ca141 h1 ⟨p0, h⟩ (by omega), bd_some, w.1]
    by_cases h5 : T p = 59
    · rw [eq_y h5, if_pos (Or.inr h5)]
    · rw [eq_n (by omega) (by decide) h5, if_neg (by omega)]
  · rw [lt_n (by omega) (by omega) h, if_pos (Or.inl (by omega))]
theorem l_or {J : Int → mu_T → Option (Int × mu_T)} (a0 : 0 ≤ a) (a1 : a ≤ L) : ∀ (n : Nat) (i : Int), 0 ≤ i → i + n = 10 → ∀ f : Nat, n < f → ∀ (μ : mu_T) (fm : Int), xt_ μ T L → (0 ≤ fm ∧ fm ≤ 60) → (∀ k, i ≤ k → k < 10 → gd9_ T L a k → (∀ j, i ≤ j → j < k → ¬ gd9_ T L a j) → ∃ μ', f_X6_readOrder_L4 J a f fm i μ = J k μ' ∧ f7_ μ μ' ∧ μ' 140 7 = (mt_ T L (fk9_ k) a).2.1 ∧ ∀ j : Nat, j < (mt_ T L (fk9_ k) a).2.2.length → j < 3 → μ' 147 j = (mt_ T L (fk9_ k) a).2.2.getD j 0) ∧ ((∀ j, i ≤ j → j < 10 → ¬ gd9_ T L a j) → ∃ μ' M, f_X6_readOrder_L4 J a f fm i μ = some (M, μ') ∧ f7_ μ μ' ∧ (fm ≤ M ∧ ∀ j, i ≤ j → j < 10 → (mt_ T L (fk9_ j) a).2.1 ≤ M) ∧ (M = fm ∨ ∃ j, i ≤ j ∧ j < 10 ∧ M = (mt_ T L (fk9_ j) a).2.1)) := by
  intro n
  induction n with
  | zero =>
    intro i i0 hi f hf μ fm hx hfm
    obtain ⟨f', rfl⟩ : ∃ f', f = f' + 1 := ⟨f - 1, by omega⟩
    refine ⟨fun k a b => by omega, fun _ => ⟨μ, fm, ?_, ⟨fun _ _ _ => rfl, fun _ _ => rfl⟩, ⟨Int.le_refl _, fun j a b => by omega⟩, Or.inl rfl⟩⟩
    rw [f_X6_readOrder_L4, lt_n (by omega) (by decide) (by omega)]
  | succ n ih =>
    intro i i0 hi f hf μ fm hx hfm
    obtain ⟨f', rfl⟩ : ∃ f', f = f' + 1 := ⟨f - 1, by omega⟩
    have hx1 : xt_ (st_ μ 140 7 a) T L := xt_k (st_n (by decide)) (st_n (by decide)) hx
    obtain ⟨μ2, b1, b2, b3, b4, b5⟩ := e_fits (k := i) (p := a) ⟨i0, by omega⟩ hx1 (by rw [st_s, if_pos rfl]) a0 a1
    have hx2 : xt_ μ2 T L := xt_k (b3 141 (by decide) (by decide)) (b3 142 (by decide) (by decide)) hx1
    have hf2 : f7_ μ μ2 := ⟨fun q q0 q1 => by rw [b3 q q0 q1, st_n q0], fun j hj => by rw [b4 j hj, st_s, if_neg hj]⟩
    have hb := mt_b (T := T) (L := L) (fk9_ i) a
    have hb2 := hb.2.1 a1
    have hL := hx.2.2
    obtain ⟨M0, hM0⟩ : ∃ M0 : Int, M0 = if fm < (mt_ T L (fk9_ i) a).2.1 then (mt_ T L (fk9_ i) a).2.1 else fm := ⟨_, rfl⟩
    have eA : f_X6_readOrder_L4 J a (f' + 1) fm i μ = if gd9_ T L a i then J i μ2 else f_X6_readOrder_L4 J a f' M0 (i + 1) μ2 := by
      have mx : ∀ g : Int → Option (Int × mu_T), mx_ fm (mt_ T L (fk9_ i) a).2.1 g = g M0 := fun g => by
        rw [hM0]
        exact if_pos ⟨by omega, by omega⟩
      rw [f_X6_readOrder_L4, lt_y (by omega) (by decide) (by omega), wf_e, gd_e ⟨i0, by omega⟩, gd_e ⟨i0, by omega⟩, b1, bp_some]
      simp only [jn_e, nm_q]
      rw [b2, mx]
      by_cases hok : (mt_ T L (fk9_ i) a).1 = true
      · rw [if_pos hok, eq_n (by decide) (by decide) (by decide), e_end hx2 b2 (by omega) hb2, bd_some]
        by_cases he : L ≤ (mt_ T L (fk9_ i) a).2.1 ∨ T (mt_ T L (fk9_ i) a).2.1 = 59
        · rw [if_pos he, eq_n (by decide) (by decide) (by decide), if_pos ⟨hok, he⟩]
        · rw [if_neg he, eq_y rfl, if_neg (fun q => he q.2)]
      · rw [if_neg hok, eq_y rfl, if_neg (fun q => hok q.1)]
    rw [eA]
    by_cases hg : gd9_ T L a i
    · rw [if_pos hg]
      refine ⟨fun k k0 k1 k2 k3 => ?_, fun h => absurd hg (h i (by omega) (by omega))⟩
      by_cases hk : k = i
      · rw [hk]
        exact ⟨μ2, rfl, hf2, b2, b5 hg.1⟩
      · exact absurd hg (k3 i (by omega) (by omega))
    · rw [if_neg hg]
      obtain ⟨c1, c2⟩ := ih (i + 1) (by omega) (by omega) f' (by omega) μ2 M0 hx2 (by rw [hM0]; split <;> omega)
      refine ⟨fun k k0 k1 k2 k3 => ?_, fun h => ?_⟩
      · have hk : k ≠ i := fun q => hg (by rw [← q]; exact k2)
        obtain ⟨μ', d1, d2, d3, d4⟩ := c1 k (by omega) k1 k2 (fun j j0 j1 => k3 j (by omega) j1)
        exact ⟨μ', d1, f7_t hf2 d2, d3, d4⟩
      · obtain ⟨μ', M, d1, d2, d3, d4⟩ := c2 (fun j j0 j1 => h j (by omega) j1)
        have hm : fm ≤ M ∧ (mt_ T L (fk9_ i) a).2.1 ≤ M := by
          have := d3.1
          rw [hM0] at this
          split at this <;> omega
        refine ⟨μ', M, d1, f7_t hf2 d2, ⟨hm.1, fun j j0 j1 => ?_⟩, ?_⟩
        · by_cases hj : j = i
          · rw [hj]
            exact hm.2
          · exact d3.2 j (by omega) j1
        · rcases d4 with z | ⟨j, j0, j1, j2⟩
          · by_cases hlt : fm < (mt_ T L (fk9_ i) a).2.1
            · rw [hM0, if_pos hlt] at z
              exact Or.inr ⟨i, by omega, by omega, z⟩
            · rw [hM0, if_neg hlt] at z
              exact Or.inl z
          · exact Or.inr ⟨j, by omega, j1, j2⟩
/-- what reading an order leaves alone -/
def f5_ (o : Int) (μ μ' : mu_T) : Prop := (∀ q, q ≠ 140 → (q < 143 ∨ 147 < q) → μ' q = μ q) ∧ (∀ j, j ≠ 5 → j ≠ 7 → μ' 140 j = μ 140 j) ∧ (∀ k, k < o → μ' 143 k = μ 143 k ∧ μ' 144 k = μ 144 k ∧ μ' 145 k = μ 145 k ∧ μ' 146 k = μ 146 k)
theorem e_keep {k c : Int} (hk : 0 ≤ k ∧ k < 10) (hc : μ 140 5 = c) (hc2 : 0 ≤ c ∧ c < 60) : ∃ μ', f_X6_keep μ k = some μ' ∧ f5_ c μ μ' ∧ μ' 140 5 = c + 1 ∧ μ' 140 7 = μ 140 7 ∧ μ' 143 c = k ∧ μ' 144 c = μ 147 0 ∧ μ' 145 c = μ 147 1 ∧ μ' 146 c = μ 147 2 := by
  have n5 : ∀ (κ : mu_T) (q : Nat) (v : Int), q ≠ 140 → (st_ κ q c v) 140 5 = κ 140 5 := fun κ q v hq => by rw [st_n (Ne.symm hq)]
  have n7 : ∀ (κ : mu_T) (q : Nat) (v : Int), q ≠ 147 → (st_ κ q c v) 147 = κ 147 := fun κ q v hq => st_n (Ne.symm hq)
  have e : f_X6_keep μ k = some (st_ (st_ (st_ (st_ (st_ μ 143 c k) 144 c (μ 147 0)) 145 c (μ 147 1)) 146 c (μ 147 2)) 140 5 (c + 1)) := by
    unfold f_X6_keep
    rw [nm_q, hc, lt_y (by omega) (by decide) (by omega), nm_q, gd_e hk, wr_e hc2.1 (by omega), nm_q, n5 _ _ _ (by decide), hc, rd_e (by decide) (by decide), n7 _ _ _ (by decide), wr_e hc2.1 (by omega), nm_q, n5 _ _ _ (by decide), n5 _ _ _ (by decide), hc, rd_e (by decide) (by decide), n7 _ _ _ (by decide), n7 _ _ _ (by decide), wr_e hc2.1 (by omega), nm_q, n5 _ _ _ (by decide), n5 _ _ _ (by decide), n5 _ _ _ (by decide), hc, rd_e (by decide) (by decide), n7 _ _ _ (by decide), n7 _ _ _ (by decide), n7 _ _ _ (by decide), wr_e hc2.1 (by omega), nm_q, n5 _ _ _ (by decide), n5 _ _ _ (by decide), n5 _ _ _ (by decide), n5 _ _ _ (by decide), hc, wf_e]
  refine ⟨_, e, ⟨fun q q0 q1 => ?_, fun j j0 j1 => ?_, fun i hi => ⟨?_, ?_, ?_, ?_⟩⟩, ?_, ?_, ?_, ?_, ?_, ?_⟩
  · rw [st_n q0, st_n (by omega), st_n (by omega), st_n (by omega), st_n (by omega)]
  · rw [st_s, if_neg j0, st_n (by decide), st_n (by decide), st_n (by decide), st_n (by decide)]
  · rw [st_n (by decide), st_n (by decide), st_n (by decide), st_n (by decide), st_s, if_neg (by omega)]
  · rw [st_n (by decide), st_n (by decide), st_n (by decide), st_s, if_neg (by omega), st_n (by decide)]
  · rw [st_n (by decide), st_n (by decide), st_s, if_neg (by omega), st_n (by decide), st_n (by decide)]
  · rw [st_n (by decide), st_s, if_neg (by omega), st_n (by decide), st_n (by decide), st_n (by decide)]
  · rw [st_s, if_pos rfl]
  · rw [st_s, if_neg (by decide), st_n (by decide), st_n (by decide), st_n (by decide), st_n (by decide)]
  · rw [st_n (by decide), st_n (by decide), st_n (by decide), st_n (by decide), st_s, if_pos rfl]
  · rw [st_n (by decide), st_n (by decide), st_n (by decide), st_s, if_pos rfl]
  · rw [st_n (by decide), st_n (by decide), st_s, if_pos rfl]
  · rw [st_n (by decide), st_s, if_pos rfl]
theorem e_ro {c : Int} (hx : xt_ μ T L) (a0 : 0 ≤ a) (a1 : a ≤ L) (hc : μ 140 5 = c) (hc2 : 0 ≤ c ∧ c < 60) : (∀ k, 0 ≤ k → k < 10 → gd9_ T L a k → (∀ j, 0 ≤ j → j < k → ¬ gd9_ T L a j) → ∃ μ', f_X6_readOrder μ a = some (-15, μ') ∧ f5_ c μ μ' ∧ μ' 140 5 = c + 1 ∧ μ' 140 7 = (mt_ T L (fk9_ k) a).2.1 ∧ μ' 143 c = k ∧ (0 < (mt_ T L (fk9_ k) a).2.2.length → μ' 144 c = (mt_ T L (fk9_ k) a).2.2.getD 0 0) ∧ (1 < (mt_ T L (fk9_ k) a).2.2.length → μ' 145 c = (mt_ T L (fk9_ k) a).2.2.getD 1 0) ∧ (2 < (mt_ T L (fk9_ k) a).2.2.length → μ' 146 c = (mt_ T L (fk9_ k) a).2.2.getD 2 0)) ∧ ((∀ j, 0 ≤ j → j < 10 → ¬ gd9_ T L a j) → ∃ μ' M, f_X6_readOrder μ a = some (M, μ') ∧ f5_ c μ μ' ∧ (a ≤ M ∧ ∀ j, 0 ≤ j → j < 10 → (mt_ T L (fk9_ j) a).2.1 ≤ M) ∧ (M = a ∨ ∃ j, 0 ≤ j ∧ j < 10 ∧ M = (mt_ T L (fk9_ j) a).2.1)) := by
  obtain ⟨F, hF, hF2⟩ := F_big
  have hL := hx.2.2
  obtain ⟨J, hJ⟩ : ∃ J : Int → mu_T → Option (Int × mu_T), J = fun x3_39 μ39 => gd_ (0 ≤ x3_39 ∧ x3_39 < 10) (bd_ (f_X6_keep μ39 x3_39) (fun μ45 => some ((-15), μ45))) := ⟨_, rfl⟩
  obtain ⟨c1, c2⟩ := l_or (J := J) (T := T) a0 a1 10 0 (by decide) (by decide) F (by omega) μ a hx (by omega)
  have e : f_X6_readOrder μ a = f_X6_readOrder_L4 J a F a 0 μ := by
    unfold f_X6_readOrder
    rw [← hF2, jn_e, ← hJ]
  have f75 : ∀ μ', f7_ μ μ' → f5_ c μ μ' := fun μ' h => ⟨fun q q0 q1 => h.1 q q0 (by omega), fun j _ j1 => h.2 j j1, fun k _ => ⟨by rw [h.1 143 (by decide) (by decide)], by rw [h.1 144 (by decide) (by decide)], by rw [h.1 145 (by decide) (by decide)], by rw [h.1 146 (by decide) (by decide)]⟩⟩
  rw [e]
  refine ⟨fun k k0 k1 k2 k3 => ?_, fun h => ?_⟩
  · obtain ⟨μ1, d1, d2, d3, d4⟩ := c1 k k0 k1 k2 k3
    obtain ⟨μ', g1, g2, g3, g4, g5, g6, g7, g8⟩ := e_keep (μ := μ1) (k := k) ⟨k0, k1⟩ ((d2.2 5 (by decide)).trans hc) hc2
    have w := f75 μ1 d2
    refine ⟨μ', ?_, ⟨fun q q0 q1 => (g2.1 q q0 q1).trans (w.1 q q0 q1), fun j j0 j1 => (g2.2.1 j j0 j1).trans (w.2.1 j j0 j1), fun i hi => ?_⟩, g3, g4.trans d3, g5, fun h => g6.trans (d4 0 h (by decide)), fun h => g7.trans (d4 1 h (by decide)), fun h => g8.trans (d4 2 h (by decide))⟩
    · rw [d1, hJ]
      show gd_ (0 ≤ k ∧ k < 10) (bd_ (f_X6_keep μ1 k) (fun μ45 => some ((-15), μ45))) = _
      rw [gd_e ⟨k0, k1⟩, g1, bd_some]
    · obtain ⟨w1, w2, w3, w4⟩ := w.2.2 i hi
      obtain ⟨v1, v2, v3, v4⟩ := g2.2.2 i hi
      exact ⟨v1.trans w1, v2.trans w2, v3.trans w3, v4.trans w4⟩
  · obtain ⟨μ', M, d1, d2, d3, d4⟩ := c2 h
    exact ⟨μ', M, d1, f75 μ' d2, d3, d4⟩
end PR
