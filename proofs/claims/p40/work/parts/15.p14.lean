/-! rites become due; weak threads are cut -/
section DU
variable {t : Int} {s : Int → Int} {μ ν : mu_T}
theorem hq_d {v : Int} (h : hq_ v μ s) : hr_ (um_ μ 0 (ur_ (μ 0) 16 (s 7))) s := by
  have q := hr_sc (j := 7) (v := s 7) h ⟨by omega, by omega, by omega⟩
  rw [ur_ur, ur_id] at q
  exact q
theorem hq_4 {v : Int} (h : hq_ v μ s) : ∀ c, 0 ≤ c → c < 24 → μ 4 c = if s (17 + c) = 0 then -1 else s (41 + c) := (hq_d h).2.2.2.1
theorem iv_sc {j v : Int} (hj : j = 2 ∨ j = 5 ∨ j = 6 ∨ j = 7) (h : iv_ t s) : iv_ t (ur_ s j v) := by
  obtain ⟨hT, hP, hH, hW, hM, hD, hG, hL, hC⟩ := h
  have k0 : ∀ i, (i < 2 ∨ i = 3 ∨ i = 4 ∨ 8 ≤ i) → ur_ s j v i = s i := fun i hi => ur_n (by omega)
  exact ⟨iv_T_k (fun j a b => k0 j (by omega)) hT, iv_P_k ⟨k0 0 (by omega), k0 1 (by omega)⟩ hP, iv_H_k (fun j a b => k0 j (by omega)) (fun k a b => Or.inl (k0 _ (by omega))) hH, iv_W_k ⟨k0 0 (by omega), k0 1 (by omega)⟩ (fun j a b => k0 j (by omega)) (fun c a b => Or.inl (k0 _ (by omega))) hW, iv_M_k ⟨k0 0 (by omega), k0 1 (by omega)⟩ (fun j a b => k0 j (by omega)) (fun c a b => Or.inl (k0 _ (by omega))) hM, iv_D_k ⟨k0 0 (by omega), k0 1 (by omega)⟩ (k0 9 (by omega)) (fun j a b => k0 j (by omega)) (fun k a b => k0 _ (by omega)) hD, iv_G_k (k0 0 (by omega)) (k0 8 (by omega)) (fun j a b => k0 j (by omega)) (fun k a b => k0 _ (by omega)) hG, iv_L_k (k0 4 (by omega)) (k0 10 (by omega)) hL, iv_C_k (k0 3 (by omega)) (k0 4 (by omega)) (fun j a b => k0 j (by omega)) hC⟩
/-- what a rite's becoming due does not touch -/
def zk_9 (s s' : Int → Int) : Prop := ∀ j, j < 65 → j ≠ 9 → s' j = s j
/-- the row behind a rite's becoming due -/
def du_ (s : Int → Int) (c : Int) : Int → Int := ur_ (ur_ (ur_ s (65 + c) 2) (257 + s 9) c) 9 (s 9 + 1)
theorem du_lt (hD : iv_D s) {c : Int} (c0 : 0 ≤ c ∧ c < 24) (hr : s (65 + c) ≠ 2) : 0 ≤ s 9 ∧ s 9 < 24 := by
  refine ⟨hD.1.1, ?_⟩
  rw [hD.1.2]
  exact cn_lt c0.1 24 (by omega) (decide_eq_false hr)
theorem du_iv {c : Int} (hI : iv_ t s) (c0 : 0 ≤ c ∧ c < 24) (hu : s (17 + c) = 1) (hr : s (65 + c) = 1) (hp : s 0 = 1) (hc : s (41 + c) ≠ 0) : iv_ t (du_ s c) ∧ zk_9 s (du_ s c) := by
  obtain ⟨hT, hP, hH, hW, hM, hD, hG, hL, hC⟩ := hI
  have h9 := du_lt hD c0 (by omega)
  have h8 := g_le hG
  have low : ∀ j, j < 65 → j ≠ 9 → du_ s c j = s j := fun j a b => by
    simp only [du_, ur_] <;> omega
  have mid : ∀ j, 89 ≤ j → (j < 257 ∨ 281 ≤ j) → du_ s c j = s j := fun j a b => by
    simp only [du_, ur_] <;> omega
  have e9 : du_ s c 9 = s 9 + 1 := ur_y
  have e65 : ∀ x, 0 ≤ x → x < 24 → du_ s c (65 + x) = if x = c then 2 else s (65 + x) := fun x a b => by
    simp only [du_, ur_] <;> omega
  have e257 : ∀ k, 0 ≤ k → k < s 9 + 1 → du_ s c (257 + k) = if k = s 9 then c else s (257 + k) := fun k a b => by
    simp only [du_, ur_] <;> omega
  obtain ⟨⟨d0, d1⟩, d2, d3, d4⟩ := hD
  have q0 := low 0 (by omega) (by omega)
  have q1 := low 1 (by omega) (by omega)
  have sfk : ∀ x, 0 ≤ x → x < 24 → sf_ s x → sf_ (du_ s c) x := fun x a b h => sf_k ⟨q0, q1⟩ (low _ (by omega) (by omega)) h
  refine ⟨⟨fun x x0 x1 => ?_, iv_P_k ⟨q0, q1⟩ hP, iv_H_k (fun j a b => low j (by omega) (by omega)) (fun k a b => Or.inl (mid _ (by omega) (by omega))) hH, iv_W_k ⟨q0, q1⟩ (fun j a b => low j (by omega) (by omega)) (fun c a b => Or.inl (mid _ (by omega) (by omega))) hW, iv_M_k ⟨q0, q1⟩ (fun j a b => low j (by omega) (by omega)) (fun c a b => Or.inl (low _ (by omega) (by omega))) hM, ⟨⟨by omega, ?_⟩, fun k k0 k1 => ?_, fun j k j0 jk k1 => ?_, fun x x0 x1 hx => ?_⟩, iv_G_k q0 (low 8 (by omega) (by omega)) (fun j a b => low j (by omega) (by omega)) (fun k a b => mid _ (by omega) (by omega)) hG, iv_L_k (low 4 (by omega) (by omega)) (low 10 (by omega) (by omega)) hL, iv_C_k (low 3 (by omega) (by omega)) (low 4 (by omega) (by omega)) (fun j a b => low j (by omega) (by omega)) hC⟩, low⟩
  · rw [low (17 + x) (by omega) (by omega), low (41 + x) (by omega) (by omega), e65 x x0 x1]
    have q := hT x x0 x1
    by_cases hx : x = c
    · subst hx
      rw [if_pos rfl]
      omega
    · rw [if_neg hx]
      exact q
  · have e := cn_up (p := fun x => decide (s (65 + x) = 2)) (q := fun x => decide (du_ s c (65 + x) = 2)) c0.1 24 (fun x x0 x1 xn => by
      show decide (du_ s c (65 + x) = 2) = decide (s (65 + x) = 2)
      rw [e65 x x0 (by omega), if_neg xn])
    have e1 : decide (du_ s c (65 + c) = 2) = true := by
      rw [e65 _ c0.1 c0.2, if_pos rfl]
      rfl
    have e2 : decide (s (65 + c) = 2) = false := by
      rw [hr]
      rfl
    rw [e, e9, if_pos (by omega), ← d1, e1, e2, if_pos rfl, if_neg (by decide)]
    omega
  · rw [e9] at k1
    rw [e257 k k0 k1]
    by_cases hk : k = s 9
    · rw [if_pos hk]
      refine ⟨c0, by rw [e65 c c0.1 c0.2, if_pos rfl], sfk c c0.1 c0.2 ⟨fun _ => hc, fun z => by omega⟩⟩
    · rw [if_neg hk]
      obtain ⟨z0, z1, z2⟩ := d2 k k0 (by omega)
      refine ⟨z0, ?_, sfk _ z0.1 z0.2 z2⟩
      rw [e65 _ z0.1 z0.2]
      split
      · rfl
      · exact z1
  · rw [e9] at k1
    rw [e257 j j0 (by omega), e257 k (by omega) k1, if_neg (show ¬ j = s 9 by omega)]
    by_cases hk : k = s 9
    · rw [if_pos hk]
      intro z
      have z1 := (d2 j j0 (by omega)).2.1
      rw [z] at z1
      omega
    · rw [if_neg hk]
      exact d3 j k j0 jk (by omega)
  · rw [e65 x x0 x1] at hx
    by_cases hxc : x = c
    · exact ⟨s 9, by omega, by omega, by rw [e257 _ (by omega) (by omega), if_pos rfl, hxc]⟩
    · rw [if_neg hxc] at hx
      obtain ⟨k, k0, k1, k2⟩ := d4 x x0 x1 hx
      exact ⟨k, k0, by omega, by rw [e257 k k0 (by omega), if_neg (by omega)]; exact k2⟩
theorem du_7 {c v : Int} (c0 : 0 ≤ c ∧ c < 24) (h9 : 0 ≤ s 9) : du_ (ur_ s 7 v) c = ur_ (du_ s c) 7 v := by
  have e9 : ur_ s 7 v 9 = s 9 := ur_n (by omega)
  unfold du_
  rw [e9]
  funext j
  simp only [ur_]
  omega
theorem du_wh {c : Int} (h : zk_9 s (du_ s c)) : wh_ (du_ s c) = wh_ s := by
  unfold wh_
  exact cn_eq 24 (fun x a b => by rw [h (17 + x) (by omega) (by omega), h (41 + x) (by omega) (by omega)])
theorem l_due {v : Int} : ∀ (n : Nat) (i : Int), 0 ≤ i → i + n = 24 → ∀ f : Nat, n < f → ∀ (μ : mu_T) (s : Int → Int) (b : Int), (b = 0 ∨ b = 1) → hq_ v μ s → iv_ t s → s 0 = 1 → ∃ (μ' : mu_T) (s' : Int → Int) (b' : Int), f_X10_makeRitesDue_L4 f b i μ = some (b', μ') ∧ f_X12_becomeDue_L4 f b i (um_ ν 1 s) = some (b', um_ ν 1 s') ∧ (b' = 0 ∨ b' = 1) ∧ hq_ v μ' s' ∧ iv_ t s' ∧ s' 0 = 1 ∧ s' 4 = s 4 ∧ s' 7 = s 7 ∧ (s' 8 + 2 * wh_ s' ≤ s 8 + 2 * wh_ s) ∧ (b' = 1 → b = 1 ∨ s' 8 + 2 * wh_ s' + 1 ≤ s 8 + 2 * wh_ s) ∧ (b' = 0 → b = 0 ∧ s' = s ∧ ∀ x, i ≤ x → x < 24 → ¬ td_ s x) ∧ (∀ k, 12 ≤ k → μ' k = μ k) ∧ (∀ j, j ≠ 8 → j ≠ 9 → (j < 41 ∨ (89 ≤ j ∧ j < 233)) → s' j = s j) ∧ ∀ x, 0 ≤ x → x < 24 → ((i ≤ x ∧ td_ s x) → s' (41 + x) = 1 ∧ s' (65 + x) = 2) ∧ (¬ (i ≤ x ∧ td_ s x) → s' (41 + x) = s (41 + x) ∧ s' (65 + x) = s (65 + x)) := by
  intro n
  induction n with
  | zero =>
    intro i i0 hi f hf μ s b hb hr hI hp
    obtain ⟨f', rfl⟩ : ∃ f', f = f' + 1 := ⟨f - 1, by omega⟩
    refine ⟨μ, s, b, ?_, ?_, hb, hr, hI, hp, rfl, rfl, Int.le_refl _, fun q => Or.inl q, fun q => ⟨q, rfl, fun x x0 x1 => by omega⟩, fun _ _ => rfl, fun _ _ _ _ => rfl, fun x x0 x1 => ⟨fun q => by omega, fun _ => ⟨rfl, rfl⟩⟩⟩
    · rw [f_X10_makeRitesDue_L4, lt_n (by omega) (by decide) (by omega)]
      exact if_pos hb
    · rw [f_X12_becomeDue_L4, lt_n (by omega) (by decide) (by omega)]
      exact if_pos hb
  | succ n ih =>
    intro i i0 hi f hf μ s b hb hr hI hp
    obtain ⟨f', rfl⟩ : ∃ f', f = f' + 1 := ⟨f - 1, by omega⟩
    have hT := hI.1 i i0 (by omega)
    have r3 := (hq_d hr).2.2.1 i i0 (by omega)
    have r3' : μ 3 i = s (65 + i) := r3
    by_cases h1 : (s (17 + i) = 1 ∧ s (41 + i) = 0) ∧ s (65 + i) = 1
    · obtain ⟨⟨h17, h41⟩, h65⟩ := h1
      have hft : ft_ s i := Or.inr ⟨i0, by omega, h17⟩
      have hG := hI.2.2.2.2.2.2.1
      have hcc : i = -15 ∨ (0 ≤ i ∧ i < 24) := Or.inr ⟨i0, by omega⟩
      obtain ⟨μ1, a1, a2, a3, a4, a5, a6, a7⟩ := q_makeGrey hr hI hp hft
      have z65 : ag_ s i (65 + i) = 1 := (a4.1 _ (by omega) (by omega) (by omega)).trans h65
      have z17 : ag_ s i (17 + i) = 1 := (a4.1 _ (by omega) (by omega) (by omega)).trans h17
      have z41 := ag_nz hG i0 (show i < 24 by omega)
      have z9 : ag_ s i 9 = s 9 := a4.1 _ (by omega) (by omega) (by omega)
      have h9 := du_lt a3.2.2.2.2.2.1 (c := i) ⟨i0, by omega⟩ (by omega)
      obtain ⟨d1, d2⟩ := du_iv a3 ⟨i0, by omega⟩ z17 z65 a5 z41
      have g8 := g_le a3.2.2.2.2.2.2.1
      have hr2 : hq_ v (st_ (st_ (st_ μ1 3 i 2) 11 (s 9) i) 10 1 (s 9 + 1)) (du_ (ag_ s i) i) := by
        have w := hr_rt (c := i) (v := 2) a2 ⟨i0, by omega⟩
        have e9 : ur_ (ur_ (ag_ s i) 7 v) (65 + i) 2 9 = s 9 := by rw [ur_n (by omega), ur_n (by omega), z9]
        have w2 := hr_du (c := i) w (by rw [e9]; omega) (by rw [ur_n (by omega), ur_n (by omega)]; omega)
        rw [e9] at w2
        unfold hq_
        rw [← du_7 ⟨i0, by omega⟩ (by omega)]
        unfold du_
        rw [show ur_ (ag_ s i) 7 v 9 = s 9 from by rw [ur_n (by omega), z9]]
        exact w2
      have e8 : du_ (ag_ s i) i 8 = ag_ s i 8 := d2 8 (by omega) (by omega)
      have m1 := (ag_ms hG hft).2 (by omega) h41
      have m2 := du_wh d2
      obtain ⟨μ', s', b', b1, b2, b3, b4, b5, b6, b7, b8, b9, b10, b11, b12, b13, b14⟩ := ih (i + 1) (by omega) (by omega) f' (by omega) _ _ 1 (Or.inr rfl) hr2 d1 ((d2 0 (by omega) (by omega)).trans a5)
      refine ⟨μ', s', b', ?_, ?_, b3, b4, b5, b6, ?_, ?_, by omega, fun _ => Or.inr (by omega), fun q => ?_, fun k hk => ?_, fun j j8 j9 jj => ?_, fun x x0 x1 => ?_⟩
      · rw [f_X10_makeRitesDue_L4, lt_y (by omega) (by decide) (by omega), e_isWhite hI.1 (hq_4 hr) (by omega), bd_some, jn_e, tr_0, if_pos ⟨⟨⟨i0, by omega⟩, h17⟩, h41⟩, rd_e i0 (by omega), r3', eq_y h65, a1, bd_some, wr_e i0 (by omega)]
        have w10 : (st_ μ1 3 i 2) 10 1 = s 9 := by
          rw [st_n (by decide)]
          exact ((hq_d a2).2.2.2.2.2.2.2.2.1.1 : μ1 10 1 = ag_ s i 9).trans z9
        have w10b : (st_ (st_ μ1 3 i 2) 11 (s 9) i) 10 1 = s 9 := by
          rw [st_n (by decide)]
          exact w10
        unfold f_X9_addLast_o10
        rw [nm_q, w10, lt_y (by omega) (by decide) (by omega), nm_q, wr_e (by omega) (by omega), nm_q, w10b, wf_e, bd_some]
        exact b1
      · have h24 := ag_lt hG i0 (by omega) h41
        have h80 := hG.1.1
        have x9 : ur_ s (65 + i) 2 9 = s 9 := ur_n (by omega)
        have x9b : ur_ (ur_ s (65 + i) 2) (257 + s 9) i 9 = s 9 := by rw [ur_n (by omega), x9]
        have x8 : ur_ (ur_ (ur_ (ur_ s (65 + i) 2) (257 + s 9) i) 9 (s 9 + 1)) (41 + i) 1 8 = s 8 := by rw [ur_n (by omega), ur_n (by omega), ur_n (by omega), ur_n (by omega)]
        have x8b : ur_ (ur_ (ur_ (ur_ (ur_ s (65 + i) 2) (257 + s 9) i) 9 (s 9 + 1)) (41 + i) 1) (233 + s 8) i 8 = s 8 := by rw [ur_n (by omega), x8]
        rw [f_X12_becomeDue_L4, lt_y (by omega) (by decide) (by omega), rd_e (by omega) (by omega), um_self, jn_e, eq_n (by omega) (by decide) (by omega), rd_e (by omega) (by omega), um_self, eq_y h41, rd_e (by omega) (by omega), um_self, eq_y h65, wr_e (by omega) (by omega), st_um, rd_e (by omega) (by omega), um_self, x9, wr_e (by omega) (by omega), st_um, rd_e (by omega) (by omega), um_self, x9b, wr_e (by omega) (by omega), st_um]
        unfold f_X12_greys
        rw [wr_e (by omega) (by omega), st_um, rd_e (by omega) (by omega), um_self, x8, wr_e (by omega) (by omega), st_um, rd_e (by omega) (by omega), um_self, x8b, wr_e (by omega) (by omega), st_um, bd_some]
        have er : ur_ (ur_ (ur_ (ur_ (ur_ (ur_ s (65 + i) 2) (257 + s 9) i) 9 (s 9 + 1)) (41 + i) 1) (233 + s 8) i) 8 (s 8 + 1) = du_ (ag_ s i) i := by
          unfold du_
          rw [z9, ag_w ⟨by omega, h41⟩]
          funext j
          simp only [ur_]
          omega
        rw [er]
        exact b2
      · rw [b7, d2 4 (by omega) (by omega), a4.1 4 (by omega) (by omega) (by omega)]
      · rw [b8, d2 7 (by omega) (by omega), a4.1 7 (by omega) (by omega) (by omega)]
      · exact absurd (b11 q).1 (by decide)
      · rw [b12 k hk, st_n (by omega), st_n (by omega), st_n (by omega), a7 k hk]
      · have e1 : du_ (ag_ s i) i j = ag_ s i j := by
          simp only [du_, ur_]
          omega
        rw [b13 j j8 j9 jj, e1, a4.1 j j8 (by omega) (by omega)]
      · have e65 : ∀ y, 0 ≤ y → y < 24 → du_ (ag_ s i) i (65 + y) = if y = i then 2 else s (65 + y) := fun y y0 y1 => by
          have q := a4.1 (65 + y) (by omega) (by omega) (by omega)
          simp only [du_, ur_]
          omega
        have e41 : ∀ y, 0 ≤ y → y < 24 → du_ (ag_ s i) i (41 + y) = if y = i then 1 else s (41 + y) := fun y y0 y1 => by
          rw [d2 (41 + y) (by omega) (by omega), ag_col hG hcc y0 y1]
          by_cases hy : y = i
          · rw [hy, if_pos ⟨rfl, h41⟩, if_pos rfl]
          · rw [if_neg (fun q => hy q.1), if_neg hy]
        have e17 : ∀ y, 0 ≤ y → y < 24 → du_ (ag_ s i) i (17 + y) = s (17 + y) := fun y y0 y1 => by
          rw [d2 (17 + y) (by omega) (by omega)]
          exact a4.1 _ (by omega) (by omega) (by omega)
        have w := b14 x x0 x1
        have wi := e65 x x0 x1
        have wj := e41 x x0 x1
        by_cases hx : x = i
        · have w2 := w.2 (by omega)
          rw [wi, wj, if_pos hx, if_pos hx] at w2
          exact ⟨fun _ => w2, fun q => absurd ⟨by omega, by rw [hx]; exact ⟨h17, h41, h65⟩⟩ q⟩
        · rw [if_neg hx] at wi wj
          have htd : td_ (du_ (ag_ s i) i) x ↔ td_ s x := by
            unfold td_
            rw [e17 x x0 x1, wi, wj]
          rw [wi, wj] at w
          exact ⟨fun q => w.1 ⟨by omega, htd.mpr q.2⟩, fun q => w.2 (fun z => q ⟨by omega, htd.mp z.2⟩)⟩
    · obtain ⟨μ', s', b', b1, b2, b3, b4, b5, b6, b7, b8, b9, b10, b11, b12, b13, b14⟩ := ih (i + 1) (by omega) (by omega) f' (by omega) μ s b hb hr hI hp
      have hnt : ¬ td_ s i := fun q => h1 ⟨⟨q.1, q.2.1⟩, q.2.2⟩
      have hni : ∀ x, i ≤ x → td_ s x → i + 1 ≤ x := fun x x0 z => by
        by_cases hx : x = i
        · rw [hx] at z
          exact absurd z hnt
        · omega
      refine ⟨μ', s', b', ?_, ?_, b3, b4, b5, b6, b7, b8, b9, b10, fun q => ⟨(b11 q).1, (b11 q).2.1, fun x x0 x1 z => (b11 q).2.2 x (hni x x0 z) x1 z⟩, b12, b13, fun x x0 x1 => ⟨fun q => (b14 x x0 x1).1 ⟨hni x q.1 q.2, q.2⟩, fun q => (b14 x x0 x1).2 (fun z => q ⟨by omega, z.2⟩)⟩⟩
      · rw [f_X10_makeRitesDue_L4, lt_y (by omega) (by decide) (by omega), e_isWhite hI.1 (hq_4 hr) (by omega), bd_some, jn_e, tr_0]
        by_cases w : ur9_ s i ∧ s (41 + i) = 0
        · rw [if_pos w, rd_e i0 (by omega), r3', eq_n (by omega) (by decide) (fun z => h1 ⟨⟨w.1.2, w.2⟩, z⟩)]
          exact b1
        · rw [if_neg w]
          exact b1
      · rw [f_X12_becomeDue_L4, lt_y (by omega) (by decide) (by omega), rd_e (by omega) (by omega), um_self, jn_e]
        by_cases w1 : s (17 + i) = 0
        · rw [eq_y w1]
          exact b2
        · rw [eq_n (by omega) (by decide) w1, rd_e (by omega) (by omega), um_self]
          by_cases w2 : s (41 + i) = 0
          · rw [eq_y w2, rd_e (by omega) (by omega), um_self, eq_n (by omega) (by decide) (fun z => h1 ⟨⟨by omega, w2⟩, z⟩)]
            exact b2
          · rw [eq_n (by omega) (by decide) w2]
            exact b2
end DU
