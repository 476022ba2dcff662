/-! the parts of a round, one behind another; step and round -/
section PU
variable {t : Int} {s : Int → Int} {μ ν : mu_T}
/-- how many parts are left at most -/
def ms_ (s : Int → Int) : Int := if s 0 = 2 then 24 - s 1 else if s 0 = 1 then 25 + s 8 + 2 * wh_ s else 0
theorem ms_2 (h : s 0 = 2) : ms_ s = 24 - s 1 := if_pos h
theorem ms_1 (h : s 0 = 1) : ms_ s = 25 + s 8 + 2 * wh_ s := by
  unfold ms_
  rw [if_neg (by omega), if_pos h]
theorem ms_0 (h : s 0 = 0) : ms_ s = 0 := by
  unfold ms_
  rw [if_neg (by omega), if_neg (by omega)]
theorem wh_7 {v : Int} : wh_ (ur_ s 7 v) = wh_ s := by
  unfold wh_
  exact cn_eq 24 (fun x a b => by rw [ur_n (show 17 + x ≠ 7 by omega), ur_n (show 41 + x ≠ 7 by omega)])
theorem bS_7 {w : Int} {s' : Int → Int} (h : bS (ur_ s 7 w) s') : bS s s' := by
  have k : ∀ j, j ≠ 7 → ur_ s 7 w j = s j := fun j hj => ur_n hj
  obtain ⟨hp, hp', h8, c, hc, h1, hf, h2, hx⟩ := h
  rw [k 0 (by decide)] at hp
  rw [k 8 (by decide)] at h8
  rw [k (41 + c) (by omega)] at h1
  refine ⟨hp, hp', h8, c, hc, h1, fun j a b d e => (hf j a b d e).trans (k j a), h2, fun x x0 x1 hxc => ?_⟩
  have q := hx x x0 x1 hxc
  rw [k (41 + x) (by omega)] at q
  have ht : tg_ (ur_ s 7 w) c x ↔ tg_ s c x := ⟨fun ⟨i, i0, i1, i2⟩ => ⟨i, i0, i1, by rw [k _ (by omega)] at i2; exact i2⟩, fun ⟨i, i0, i1, i2⟩ => ⟨i, i0, i1, by rw [k _ (by omega)]; exact i2⟩⟩
  exact ⟨q.1, fun z => ⟨fun y => (q.2 z).1 (ht.mpr y), fun y => (q.2 z).2 (fun n => y (ht.mp n))⟩⟩
theorem sS_7 {w : Int} {s' : Int → Int} (hc : 0 ≤ s 1) (h : sS (ur_ s 7 w) s') : sS s s' := by
  have e0 : ur_ s 7 w 0 = s 0 := ur_n (by decide)
  have e1 : ur_ s 7 w 1 = s 1 := ur_n (by decide)
  have e4 : ur_ s 7 w 4 = s 4 := ur_n (by decide)
  have k : ∀ j, 8 ≤ j → ur_ s 7 w j = s j := fun j hj => ur_n (by omega)
  obtain ⟨hp, hm, hn, h41, hz⟩ := h
  rw [e0] at hp
  rw [e1] at hn h41 hz
  rw [e4] at hz
  rw [k (17 + s 1) (by omega), k (41 + s 1) (by omega)] at hz
  refine ⟨hp, fun i i0 i1 => (hm i i0 i1).trans (k _ (by omega)), hn, fun x x0 x1 => by rw [h41 x x0 x1, k (41 + x) (by omega)], ?_⟩
  rcases hz with ⟨z1, z2, z3, z4, z5, z6⟩ | ⟨z1, z2, z3, z4, z5⟩
  · exact Or.inl ⟨z1, z2, z3, fun x x0 x1 => by rw [z4 x x0 x1, k (17 + x) (by omega)], fun x x0 x1 => by rw [z5 x x0 x1, k (65 + x) (by omega)], fun i i0 i1 => by rw [z6 i i0 i1, k (137 + i) (by omega)]⟩
  · exact Or.inr ⟨z1, z2, fun x x0 x1 => by rw [z3 x x0 x1, k (17 + x) (by omega)], fun x x0 x1 => by rw [z4 x x0 x1, k (65 + x) (by omega)], fun i i0 i1 => by rw [z5 i i0 i1, k (137 + i) (by omega)]⟩
theorem c_part (ht : t ≤ 1000000) (hr : hr_ μ s) (hI : iv_ t s) (hp : s 0 ≠ 0) {a x : Int} (hx : 0 ≤ x) (hxa : x < a) (ha : rg_ a) (f : Nat) : ∃ (μ' : mu_T) (s' : Int → Int), f_X10_doPartsUntilOver_L2 a (f + 1) x μ = f_X10_doPartsUntilOver_L2 a f (x + 1) μ' ∧ f_X12_part (um_ ν 1 s) = some (um_ ν 1 s') ∧ hr_ μ' s' ∧ iv_ t s' ∧ ms_ s' + 1 ≤ ms_ s ∧ (s 4 ≤ s' 4 ∧ s' 4 ≤ s 4 + 1) ∧ (∀ k, 12 ≤ k → μ' k = μ k) ∧ pt_ s s' := by
  have hP := hI.2.1
  have hP1 := hP.1
  have hP2 := hP.2.1
  have hq := hq_in hr
  have hI7 : iv_ t (ur_ s 7 (s 7 + 1)) := iv_7 hI
  have k : ∀ j, j ≠ 7 → ur_ s 7 (s 7 + 1) j = s j := fun j hj => ur_n hj
  have r12 : μ 0 9 = s 0 := hr.2.2.2.2.2.2.2.2.2.1
  have r8 : μ 8 1 = s 8 := hr.2.2.2.2.2.2.2.1.1
  have g8 := g_le hI.2.2.2.2.2.2.1
  have gw := wh_0 (s := s)
  have fin : ∀ (μ1 : mu_T) (s1 : Int → Int), hq_ (s 7) μ1 s1 → s1 7 = s 7 + 1 → (nm_ (μ1 0 16) (fun v71 => wf_ μ1 0 16 (v71 + 1) (fun μ76 => nm_ (x + 1) (fun n79 => f_X10_doPartsUntilOver_L2 a f n79 μ76)))) = f_X10_doPartsUntilOver_L2 a f (x + 1) (st_ μ1 0 16 (s 7 + 1)) ∧ hr_ (st_ μ1 0 16 (s 7 + 1)) s1 := fun μ1 s1 h h7 => by
    obtain ⟨e, w⟩ := hq_out h h7
    refine ⟨?_, w⟩
    rw [nm_q, e, wf_e, nm_q]
  by_cases h2 : s 0 = 2
  · obtain ⟨μ1, s1, a1, a2, a3, a4, a5, a6, a7, a8, a10⟩ := c_sweep (ν := ν) ht hq hI7 ((k 0 (by decide)).trans h2)
    obtain ⟨e1, e2⟩ := fin μ1 s1 a3 (a6.trans ur_y)
    refine ⟨_, s1, ?_, ?_, e2, a4, ?_, ?_, fun k hk => by rw [st_n (by omega), a8 k hk], Or.inr (Or.inr (Or.inr (sS_7 hP2.1 a10)))⟩
    · rw [f_X10_doPartsUntilOver_L2, lt_y (by omega) ha hxa, nm_q, r12, eq_n (by omega) (by decide) hp, nm_q, jn_e, eq_y h2, a1, bd_some]
      exact e1
    · unfold f_X12_part
      rw [rd_e (by decide) (by decide), um_self, wr_e (by decide) (by decide), st_um, rd_e (by decide) (by decide), um_self, k 0 (by decide), eq_y h2, a2, bd_some]
    · rw [k 1 (by decide)] at a5
      rw [ms_2 h2]
      rcases a5 with w | w
      · rw [ms_2 w.1, w.2]
        omega
      · rw [ms_0 w]
        omega
    · rw [k 4 (by decide)] at a7
      exact a7
  · have h1 : s 0 = 1 := by omega
    have hp7 : ur_ s 7 (s 7 + 1) 0 = 1 := (k 0 (by decide)).trans h1
    rw [ms_1 h1]
    by_cases c8 : 0 < s 8
    · obtain ⟨μ1, s1, a1, a2, a3, a4, a5, a6, a7, a8, a9, a10⟩ := c_black (ν := ν) hq hI7 hp7 (by rw [k 8 (by decide)]; exact c8)
      obtain ⟨e1, e2⟩ := fin μ1 s1 a3 (a7.trans ur_y)
      refine ⟨_, s1, ?_, ?_, e2, a4, ?_, ?_, fun k hk => by rw [st_n (by omega), a9 k hk], Or.inl (bS_7 a10)⟩
      · rw [f_X10_doPartsUntilOver_L2, lt_y (by omega) ha hxa, nm_q, r12, eq_n (by omega) (by decide) hp, nm_q, jn_e, eq_n (by omega) (by decide) h2, nm_q, r8, lt_y (by decide) (by omega) c8, a1, bd_some]
        exact e1
      · unfold f_X12_part
        rw [rd_e (by decide) (by decide), um_self, wr_e (by decide) (by decide), st_um, rd_e (by decide) (by decide), um_self, k 0 (by decide), eq_n (by omega) (by decide) h2, rd_e (by decide) (by decide), um_self, k 8 (by decide), lt_y (by decide) (by omega) c8, a2, bd_some]
      · rw [k 8 (by decide), wh_7] at a8
        rw [ms_1 a5]
        omega
      · rw [a6, k 4 (by decide)]
        omega
    · obtain ⟨F, hF, hF2⟩ := F_big
      obtain ⟨μ1, s1, b', b1, b2, b3, b4, b5, b6, b7, b8, b9, b10, b11, b12, b13, b14⟩ := l_due (t := t) (ν := ν) 24 0 (by decide) (by decide) F (by omega) μ (ur_ s 7 (s 7 + 1)) 0 (Or.inl rfl) hq hI7 hp7
      have eD : f_X10_makeRitesDue μ = some (b', μ1) := by
        unfold f_X10_makeRitesDue
        rw [← hF2]
        exact b1
      have eM : f_X12_becomeDue (um_ ν 1 (ur_ s 7 (s 7 + 1))) = some (b', um_ ν 1 s1) := by
        unfold f_X12_becomeDue
        rw [← hF2]
        exact b2
      rw [k 8 (by decide), wh_7] at b10
      rcases b3 with rfl | rfl
      · obtain ⟨-, rfl, htd⟩ := b11 rfl
        obtain ⟨μ2, s2, c1, c2, c3, c4, c5, c6, c7, c8', c9, c10⟩ := c_cut (ν := ν) b4 b5 b6 (by rw [k 8 (by decide)]; omega)
        obtain ⟨e1, e2⟩ := fin μ2 s2 c3 (c8'.trans ur_y)
        refine ⟨_, s2, ?_, ?_, e2, c4, ?_, ?_, fun k hk => by rw [st_n (by omega), c9 k hk, b12 k hk], Or.inr (Or.inr (Or.inl ⟨h1, by omega, fun x x0 x1 q => htd x x0 x1 ⟨by rw [k _ (by omega)]; exact q.1, by rw [k _ (by omega)]; exact q.2.1, by rw [k _ (by omega)]; exact q.2.2⟩, c5, c6, fun j j2 j6 j7 jj => by rw [c10 j j2 j6 jj, k j j7]⟩))⟩
        · rw [f_X10_doPartsUntilOver_L2, lt_y (by omega) ha hxa, nm_q, r12, eq_n (by omega) (by decide) hp, nm_q, jn_e, eq_n (by omega) (by decide) h2, nm_q, r8, lt_n (by decide) (by omega) c8, eD, bp_some, eq_y rfl, c1, bd_some]
          exact e1
        · unfold f_X12_part
          rw [rd_e (by decide) (by decide), um_self, wr_e (by decide) (by decide), st_um, rd_e (by decide) (by decide), um_self, k 0 (by decide), eq_n (by omega) (by decide) h2, rd_e (by decide) (by decide), um_self, k 8 (by decide), lt_n (by decide) (by omega) c8, eM, bp_some, eq_y rfl, c2, bd_some]
        · rw [ms_2 c5, c6]
          omega
        · rw [c7, k 4 (by decide)]
          omega
      · obtain ⟨e1, e2⟩ := fin μ1 s1 b4 (b8.trans ur_y)
        have hd : dS s s1 := by
          refine ⟨h1, b6, by omega, fun j j7 j8 j9 jj => (b13 j j8 j9 jj).trans (k j j7), fun x x0 x1 => ?_⟩
          have w := b14 x x0 x1
          rw [k (41 + x) (by omega), k (65 + x) (by omega)] at w
          have htd : td_ (ur_ s 7 (s 7 + 1)) x ↔ td_ s x := by
            unfold td_
            rw [k (17 + x) (by omega), k (41 + x) (by omega), k (65 + x) (by omega)]
          exact ⟨fun q => w.1 ⟨x0, htd.mpr q⟩, fun q => w.2 (fun z => q (htd.mp z.2))⟩
        refine ⟨_, s1, ?_, ?_, e2, b5, ?_, ?_, fun k hk => by rw [st_n (by omega), b12 k hk], Or.inr (Or.inl hd)⟩
        · rw [f_X10_doPartsUntilOver_L2, lt_y (by omega) ha hxa, nm_q, r12, eq_n (by omega) (by decide) hp, nm_q, jn_e, eq_n (by omega) (by decide) h2, nm_q, r8, lt_n (by decide) (by omega) c8, eD, bp_some, eq_n (by decide) (by decide) (by decide)]
          exact e1
        · unfold f_X12_part
          rw [rd_e (by decide) (by decide), um_self, wr_e (by decide) (by decide), st_um, rd_e (by decide) (by decide), um_self, k 0 (by decide), eq_n (by omega) (by decide) h2, rd_e (by decide) (by decide), um_self, k 8 (by decide), lt_n (by decide) (by omega) c8, eM, bp_some, eq_n (by decide) (by decide) (by decide)]
        · have q := b10 rfl
          rw [ms_1 b6]
          omega
        · rw [b7, k 4 (by decide)]
          omega
theorem ms_up (hI : iv_ t s) (hp : s 0 ≠ 0) : 1 ≤ ms_ s := by
  have hP := hI.2.1
  have hP1 := hP.1
  have hP2 := hP.2.1
  have g8 := g_le hI.2.2.2.2.2.2.1
  have gw := wh_0 (s := s)
  by_cases h2 : s 0 = 2
  · rw [ms_2 h2]
    omega
  · rw [ms_1 (by omega)]
    omega
theorem ms_le (hI : iv_ t s) : ms_ s ≤ 97 := by
  have hP := hI.2.1
  have hP1 := hP.1
  have hP2 := hP.2.1
  have g8 := g_le hI.2.2.2.2.2.2.1
  have gw := wh_0 (s := s)
  by_cases h2 : s 0 = 2
  · rw [ms_2 h2]
    omega
  · by_cases h1 : s 0 = 1
    · rw [ms_1 h1]
      omega
    · rw [ms_0 (by omega)]
      omega
theorem l_p0 (hr : hr_ μ s) (h0 : s 0 = 0) {a b x : Int} (ha : rg_ a) (hb : rg_ b) (hx : rg_ x) {f g : Nat} (hf : 0 < f) (hg : 0 < g) : f_X10_doPartsUntilOver_L2 a f x μ = some (x, μ) ∧ f_X12_partsOn_L2 b g x (um_ ν 1 s) = some (x, um_ ν 1 s) := by
  obtain ⟨f', rfl⟩ : ∃ f', f = f' + 1 := ⟨f - 1, by omega⟩
  obtain ⟨g', rfl⟩ : ∃ g', g = g' + 1 := ⟨g - 1, by omega⟩
  have r12 : μ 0 9 = s 0 := hr.2.2.2.2.2.2.2.2.2.1
  constructor
  · rw [f_X10_doPartsUntilOver_L2]
    by_cases h : x < a
    · rw [lt_y hx ha h, nm_q, r12, eq_y h0]
    · rw [lt_n hx ha h]
  · rw [f_X12_partsOn_L2]
    by_cases h : x < b
    · rw [lt_y hx hb h, rd_e (by decide) (by decide), um_self, h0, lt_n (by decide) (by decide) (by decide)]
    · rw [lt_n hx hb h]
theorem l_parts (ht : t ≤ 1000000) {a b : Int} (ha : rg_ a) (hb : rg_ b) : ∀ (n : Nat) (x : Int), 0 ≤ x → x + n ≤ 1000 → (a = b ∨ (x + n ≤ a ∧ x + n ≤ b)) → ∀ f g : Nat, n < f → n < g → ∀ (μ : mu_T) (s : Int → Int), hr_ μ s → iv_ t s → ms_ s ≤ n → ∃ (r : Int) (μ' : mu_T) (s' : Int → Int), f_X10_doPartsUntilOver_L2 a f x μ = some (r, μ') ∧ f_X12_partsOn_L2 b g x (um_ ν 1 s) = some (r, um_ ν 1 s') ∧ hr_ μ' s' ∧ iv_ t s' ∧ (x ≤ r ∧ r ≤ x + n) ∧ (s 4 ≤ s' 4 ∧ s' 4 ≤ s 4 + n) ∧ (∀ k, 12 ≤ k → μ' k = μ k) ∧ ps_ t s s' ∧ (x + ms_ s ≤ a → s' 0 = 0) := by
  intro n
  induction n with
  | zero =>
    intro x x0 x1 hab f g hf hg μ s hr hI hm
    have h0 : s 0 = 0 := by
      by_cases h : s 0 = 0
      · exact h
      · have := ms_up hI h
        omega
    obtain ⟨e1, e2⟩ := l_p0 (ν := ν) hr h0 ha hb (x := x) ⟨by omega, by omega⟩ hf hg
    exact ⟨x, μ, s, e1, e2, hr, hI, by omega, by omega, fun _ _ => rfl, ps_r, fun _ => h0⟩
  | succ n ih =>
    intro x x0 x1 hab f g hf hg μ s hr hI hm
    by_cases h0 : s 0 = 0
    · obtain ⟨e1, e2⟩ := l_p0 (ν := ν) hr h0 ha hb (x := x) ⟨by omega, by omega⟩ (show 0 < f by omega) (show 0 < g by omega)
      exact ⟨x, μ, s, e1, e2, hr, hI, by omega, by omega, fun _ _ => rfl, ps_r, fun _ => h0⟩
    · obtain ⟨f', rfl⟩ : ∃ f', f = f' + 1 := ⟨f - 1, by omega⟩
      obtain ⟨g', rfl⟩ : ∃ g', g = g' + 1 := ⟨g - 1, by omega⟩
      by_cases hxa : x < a
      · have hxb : x < b := by omega
        obtain ⟨μ1, s1, a1, a2, a3, a4, a5, a6, a7, a8⟩ := c_part (ν := ν) ht hr hI h0 x0 hxa ha f'
        obtain ⟨r, μ2, s2, b1, b2, b3, b4, b5, b6, b7, b8, b9⟩ := ih (x + 1) (by omega) (by omega) (by omega) f' g' (by omega) (by omega) μ1 s1 a3 a4 (by omega)
        refine ⟨r, μ2, s2, a1.trans b1, ?_, b3, b4, by omega, by omega, fun k hk => (b7 k hk).trans (a7 k hk), ps_c hI h0 a8 b8, fun q => b9 (by omega)⟩
        have hP1 := hI.2.1.1
        rw [f_X12_partsOn_L2, lt_y (by omega) hb hxb, rd_e (by decide) (by decide), um_self, lt_y (by decide) (by omega) (by omega), a2, bd_some, nm_q]
        exact b2
      · have hxb : ¬ x < b := by omega
        refine ⟨x, μ, s, ?_, ?_, hr, hI, by omega, by omega, fun _ _ => rfl, ps_r, fun q => by have := ms_up hI h0; omega⟩
        · rw [f_X10_doPartsUntilOver_L2, lt_n (by omega) ha hxa]
        · rw [f_X12_partsOn_L2, lt_n (by omega) hb hxb]
theorem c_parts (ht : t ≤ 1000000) {a b : Int} (ha : rg_ a) (hb : rg_ b) (hab : a = b ∨ (99 ≤ a ∧ 99 ≤ b)) (hr : hr_ μ s) (hI : iv_ t s) : ∃ (r : Int) (μ' : mu_T) (s' : Int → Int), f_X10_doPartsUntilOver μ a = some (r, μ') ∧ f_X12_partsOn (um_ ν 1 s) b = some (r, um_ ν 1 s') ∧ hr_ μ' s' ∧ iv_ t s' ∧ (0 ≤ r ∧ r ≤ 99) ∧ (s 4 ≤ s' 4 ∧ s' 4 ≤ s 4 + 99) ∧ (∀ k, 12 ≤ k → μ' k = μ k) ∧ ps_ t s s' ∧ (99 ≤ a → s' 0 = 0) := by
  obtain ⟨F, hF, hF2⟩ := F_big
  have hm := ms_le hI
  obtain ⟨r, μ2, s2, b1, b2, b3, b4, b5, b6, b7, b8, b9⟩ := l_parts (ν := ν) ht ha hb 99 0 (by decide) (by decide) (by omega) F F (by omega) (by omega) μ s hr hI (by omega)
  refine ⟨r, μ2, s2, ?_, ?_, b3, b4, by omega, by omega, b7, b8, fun q => b9 (by omega)⟩
  · unfold f_X10_doPartsUntilOver
    rw [← hF2]
    exact b1
  · unfold f_X12_partsOn
    rw [← hF2]
    exact b2
theorem op_steps (ht : t ≤ 1000000) (h : hi_ t μ ν) {a : Int} (ha : rg_ a) : op_ t μ ν (f_X10_doParts μ a) (f_X12_stepsOn ν a) := by
  obtain ⟨hr, hI⟩ := id h
  have r12 : μ 0 9 = ν 1 0 := hr.2.2.2.2.2.2.2.2.2.1
  have r14 : μ 0 11 = ν 1 2 := hr.2.2.2.2.2.2.2.2.2.2.2.1
  have hP1 := hI.2.1.1
  unfold f_X10_doParts f_X12_stepsOn
  rw [e_in ha (by decide) (by decide), bd_some, tr_0, lt_if ha (by decide), lt_if (by decide) ha]
  by_cases h1 : a < 1
  · rw [if_pos h1, if_neg (by omega)]
    exact op_code h (Or.inr rfl)
  · rw [if_neg h1]
    by_cases h2 : 99 < a
    · rw [if_pos h2, if_neg (by omega)]
      exact op_code h (Or.inr rfl)
    · rw [if_neg h2, if_pos (by omega), nm_q, r12, rd_e (by decide) (by decide)]
      by_cases h0 : ν 1 0 = 0
      · rw [eq_y h0, eq_y h0, nm_q, r14, rd_e (by decide) (by decide), e_refuse, e_refused, bp_some, bp_some]
        exact op_ref h ⟨by omega, by omega⟩
      · obtain ⟨r, μ1, s1, b1, b2, b3, b4, b5, b6, b7, b8, b9⟩ := c_parts (ν := ν) ht ha ha (Or.inl rfl) hr hI
        rw [um_id] at b2
        rw [eq_n (by omega) (by decide) h0, eq_n (by omega) (by decide) h0, b1, b2, bp_some, bp_some, e_done, bp_some]
        exact op_done b3 (iv_mono (by omega) b4) b7 (by omega) ⟨by omega, by omega⟩ (ps_B b8)
theorem op_round (ht : t ≤ 1000000) (h : hi_ t μ ν) : op_ t μ ν (f_X10_endRound μ) (f_X12_wholeRound ν) := by
  obtain ⟨hr, hI⟩ := id h
  have r12 : μ 0 9 = ν 1 0 := hr.2.2.2.2.2.2.2.2.2.1
  have hP1 := hI.2.1.1
  have fin : ∀ (μ1 : mu_T) (s1 : Int → Int), hr_ μ1 s1 → iv_ t s1 → s1 4 = ν 1 4 → (∀ k, 12 ≤ k → μ1 k = μ k) → (iv_B (ν 1) → iv_B s1) → op_ t μ ν (nm_ (μ1 0 13) (fun v18 => bp_ (f_X10_doPartsUntilOver μ1 99) (fun v25 μ25 => nm_ (μ25 0 13) (fun v33 => some ((v33 - v18), μ25))))) (bp_ (f_X12_partsOn (um_ ν 1 s1) 10000) (fun v29 μ29 => rd_ μ29 1 293 4 (fun v39 => bp_ (f_X12_done μ29 (v39 - ν 1 4)) (fun v42 μ42 => some (v42, μ42))))) := by
    intro μ1 s1 hr1 hI1 h4 hX hB1
    obtain ⟨r, μ2, s2, b1, b2, b3, b4, b5, b6, b7, b8, b9⟩ := c_parts (ν := ν) ht (a := 99) (b := 10000) (by decide) (by decide) (Or.inr ⟨by decide, by decide⟩) hr1 hI1
    have r16 : μ1 0 13 = s1 4 := hr1.2.2.2.2.2.2.2.2.2.2.2.2.2.1
    have r16' : μ2 0 13 = s2 4 := b3.2.2.2.2.2.2.2.2.2.2.2.2.2.1
    rw [nm_q, b1, bp_some, nm_q, b2, bp_some, rd_e (by decide) (by decide), um_self, r16, r16', h4, e_done, bp_some]
    exact op_done b3 (iv_mono (by omega) b4) (fun k hk => (b7 k hk).trans (hX k hk)) (by omega) ⟨by omega, by omega⟩ (fun hB => ps_B b8 (hB1 hB))
  unfold f_X10_endRound f_X12_wholeRound
  rw [nm_q, r12, rd_e (by decide) (by decide), rd_e (by decide) (by decide), jn_e, jn_e]
  by_cases h0 : ν 1 0 = 0
  · obtain ⟨μ1, s1, a1, a2, a3, a4, a5, a6, a7, a8⟩ := c_begin h h0
    rw [eq_y h0, eq_y h0, a1, bd_some, a2, bp_some]
    exact fin μ1 s1 a3 a4 a6 a7 (fun hB => be_B hI h0 a8 hB)
  · rw [eq_n (by omega) (by decide) h0, eq_n (by omega) (by decide) h0]
    have w := fin μ (ν 1) hr hI rfl (fun _ _ => rfl) (fun hB => hB)
    rw [um_id] at w
    exact w
theorem p_step : pf_step RR_ := fun t μ ν a ht hR ha => wr_op2 (x := fun μ => f_X10_doParts μ a) (y := fun ν => f_X12_stepsOn ν a) t (fun μ ν q => op_steps (by omega) q ha) μ ν hR
theorem p_round : pf_round RR_ := fun t μ ν ht hR => wr_op2 (x := fun μ => f_X10_endRound μ) (y := fun ν => f_X12_wholeRound ν) t (fun μ ν q => op_round (by omega) q) μ ν hR
end PU
