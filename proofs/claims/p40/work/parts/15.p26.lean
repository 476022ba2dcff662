/-! the reference's distances -/
section FA
variable {μ ν : mu_T} {s : Int → Int}
/-- 'nearer' -/
def nr_ (g : Int → Int) (c d : Int) : Int → Int := if c ≠ -15 ∧ d < g c then ur_ g c d else g
theorem nr_y {g : Int → Int} {c d : Int} (h : c ≠ -15 ∧ d < g c) : nr_ g c d = ur_ g c d := if_pos h
theorem nr_x {g : Int → Int} {c d : Int} (h : ¬ (c ≠ -15 ∧ d < g c)) : nr_ g c d = g := if_neg h
theorem nr_le {g : Int → Int} {c d k : Int} : nr_ g c d k ≤ g k := by
  by_cases h : c ≠ -15 ∧ d < g c
  · rw [nr_y h]
    unfold ur_
    split
    · next q =>
      rw [q]
      omega
    · exact Int.le_refl _
  · rw [nr_x h]
    exact Int.le_refl _
theorem nr_at {g : Int → Int} {c d : Int} (hc : c ≠ -15) : nr_ g c d c ≤ d := by
  by_cases h : d < g c
  · rw [nr_y ⟨hc, h⟩, ur_y]
    exact Int.le_refl _
  · rw [nr_x (fun q => h q.2)]
    omega
/-- no distance is too small -/
def sn9_ (r : Int → Bool) (e : Int → Int → Bool) (o : Int) (g : Int → Int) : Prop := ∀ c, 0 ≤ c → c < 24 → (0 ≤ g c ∧ g c ≤ 99) ∧ (g c < 99 → o ≤ g c ∧ rq_ r e (g c - o).toNat c = true)
theorem e_nr {c d : Int} {g : Int → Int} (hc : c = -15 ∨ (0 ≤ c ∧ c < 24)) (hg : ∀ c, 0 ≤ c → c < 24 → 0 ≤ g c ∧ g c ≤ 99) (hd : rg_ d) : f_X12_nears (um_ ν 8 g) c d = some (um_ ν 8 (nr_ g c d)) := by
  unfold f_X12_nears
  by_cases h0 : c = -15
  · rw [eq_y h0, nr_x (fun q => q.1 h0)]
  · have hc2 : 0 ≤ c ∧ c < 24 := by omega
    have w := hg c hc2.1 hc2.2
    rw [eq_n (by omega) (by decide) h0, rd_e hc2.1 (by omega), um_self]
    by_cases h : d < g c
    · rw [lt_y hd (by omega) h, wr_e hc2.1 (by omega), st_um, nr_y ⟨h0, h⟩]
    · rw [lt_n hd (by omega) h, nr_x (fun q => h q.2)]
theorem e_nears {c d o : Int} {g : Int → Int} {r : Int → Bool} {e : Int → Int → Bool} (hc : c = -15 ∨ (0 ≤ c ∧ c < 24)) (hg : sn9_ r e o g) (hd : rg_ d) : f_X12_nears (um_ ν 8 g) c d = some (um_ ν 8 (nr_ g c d)) := e_nr hc (fun c a b => (hg c a b).1) hd
theorem sn_nr {r : Int → Bool} {o c i : Int} {g : Int → Int} (hc : 0 ≤ c ∧ c < 24) (hg : sn9_ r (ej_ s) o g) (h : g c < 99) (i0 : 0 ≤ i) (i1 : i < 4) (ht : s (137 + (c * 4 + i)) = -15 ∨ (0 ≤ s (137 + (c * 4 + i)) ∧ s (137 + (c * 4 + i)) < 24)) : sn9_ r (ej_ s) o (nr_ g (s (137 + (c * 4 + i))) (g c + 1)) := by
  by_cases hz : s (137 + (c * 4 + i)) ≠ -15 ∧ g c + 1 < g (s (137 + (c * 4 + i)))
  · rw [nr_y hz]
    intro k k0 k1
    by_cases hk : k = s (137 + (c * 4 + i))
    · have w := hg c hc.1 hc.2
      have w2 := hg k k0 k1
      have w3 := w.2 h
      rw [hk, ur_y]
      rw [← hk] at hz
      refine ⟨by omega, fun _ => ⟨by omega, ?_⟩⟩
      rw [show (g c + 1 - o).toNat = (g c - o).toNat + 1 by omega]
      exact rc_st hc w3.2 (ex_i.mpr ⟨i, i0, by omega, decide_eq_true rfl⟩)
    · rw [ur_n hk]
      exact hg k k0 k1
  · rw [nr_x hz]
    exact hg
theorem l_slm {J : mu_T → Option mu_T} {c : Int} (hc : 0 ≤ c ∧ c < 24) (ht : ∀ k, 0 ≤ k → k < 96 → ν 1 (137 + k) = -15 ∨ (0 ≤ ν 1 (137 + k) ∧ ν 1 (137 + k) < 24)) {r : Int → Bool} {o : Int} : ∀ (n : Nat) (i : Int), 0 ≤ i → i + n = 4 → ∀ f : Nat, n < f → ∀ g : Int → Int, sn9_ r (ej_ (ν 1)) o g → ∃ g' : Int → Int, f_X12_measures_L147 J c f i (um_ ν 8 g) = J (um_ ν 8 g') ∧ sn9_ r (ej_ (ν 1)) o g' ∧ (∀ k, 0 ≤ k → k < 24 → g' k ≤ g k) ∧ (∀ j, i ≤ j → j < 4 → g c < 99 → ν 1 (137 + (c * 4 + j)) ≠ -15 → g' (ν 1 (137 + (c * 4 + j))) ≤ g c + 1) := by
  intro n
  induction n with
  | zero =>
    intro i i0 hi f hf g hg
    obtain ⟨f', rfl⟩ : ∃ f', f = f' + 1 := ⟨f - 1, by omega⟩
    refine ⟨g, ?_, hg, fun _ _ _ => Int.le_refl _, fun j a b => by omega⟩
    rw [f_X12_measures_L147, lt_n (by omega) (by decide) (by omega)]
  | succ n ih =>
    intro i i0 hi f hf g hg
    obtain ⟨f', rfl⟩ : ∃ f', f = f' + 1 := ⟨f - 1, by omega⟩
    have w := hg c hc.1 hc.2
    have ei : (137 + (4 * c)) + i = 137 + (c * 4 + i) := by omega
    have h1 : (um_ ν 8 g) 1 = ν 1 := um_ne (by decide)
    have htt := ht (c * 4 + i) (by omega) (by omega)
    rw [f_X12_measures_L147, lt_y (by omega) (by decide) (by omega), rd_e hc.1 (by omega), um_self]
    simp only [jn_e, nm_q]
    by_cases h : g c < 99
    · rw [lt_y (by omega) (by decide) h, e_at, bd_some, rd_e (by omega) (by omega), h1, ei, rd_e hc.1 (by omega), um_self, e_nears htt hg (by omega), bd_some]
      obtain ⟨g', a1, a2, a3, a4⟩ := ih (i + 1) (by omega) (by omega) f' (by omega) (nr_ g (ν 1 (137 + (c * 4 + i))) (g c + 1)) (sn_nr hc hg h (i := i) i0 (by omega) htt)
      refine ⟨g', a1, a2, fun k k0 k1 => Int.le_trans (a3 k k0 k1) nr_le, fun j j0 j1 j2 j3 => ?_⟩
      have hn : nr_ g (ν 1 (137 + (c * 4 + i))) (g c + 1) c = g c := by
        by_cases hz : ν 1 (137 + (c * 4 + i)) ≠ -15 ∧ g c + 1 < g (ν 1 (137 + (c * 4 + i)))
        · rw [nr_y hz, ur_n (fun q => by rw [← q] at hz; omega)]
        · rw [nr_x hz]
      by_cases hj : j = i
      · subst hj
        have hb : 0 ≤ ν 1 (137 + (c * 4 + j)) ∧ ν 1 (137 + (c * 4 + j)) < 24 := by omega
        exact Int.le_trans (a3 _ hb.1 hb.2) (nr_at j3)
      · have q := a4 j (by omega) j1 (by rw [hn]; exact h) j3
        rw [hn] at q
        exact q
    · rw [lt_n (by omega) (by decide) h]
      obtain ⟨g', a1, a2, a3, a4⟩ := ih (i + 1) (by omega) (by omega) f' (by omega) g hg
      exact ⟨g', a1, a2, a3, fun j j0 j1 j2 j3 => absurd j2 h⟩
theorem l_cem {J : mu_T → Option mu_T} (ht : ∀ k, 0 ≤ k → k < 96 → ν 1 (137 + k) = -15 ∨ (0 ≤ ν 1 (137 + k) ∧ ν 1 (137 + k) < 24)) {r : Int → Bool} {o : Int} : ∀ (n : Nat) (i : Int), 0 ≤ i → i + n = 24 → ∀ f : Nat, n < f → ∀ g : Int → Int, sn9_ r (ej_ (ν 1)) o g → ∃ g' : Int → Int, f_X12_measures_L137 J f i (um_ ν 8 g) = J (um_ ν 8 g') ∧ sn9_ r (ej_ (ν 1)) o g' ∧ (∀ k, 0 ≤ k → k < 24 → g' k ≤ g k) ∧ (∀ c, i ≤ c → c < 24 → ∀ j, 0 ≤ j → j < 4 → g c < 99 → ν 1 (137 + (c * 4 + j)) ≠ -15 → g' (ν 1 (137 + (c * 4 + j))) ≤ g c + 1) := by
  intro n
  induction n with
  | zero =>
    intro i i0 hi f hf g hg
    obtain ⟨f', rfl⟩ : ∃ f', f = f' + 1 := ⟨f - 1, by omega⟩
    refine ⟨g, ?_, hg, fun _ _ _ => Int.le_refl _, fun j a b => by omega⟩
    rw [f_X12_measures_L137, lt_n (by omega) (by decide) (by omega)]
  | succ n ih =>
    intro i i0 hi f hf g hg
    obtain ⟨f', rfl⟩ : ∃ f', f = f' + 1 := ⟨f - 1, by omega⟩
    obtain ⟨F, hF, hF2⟩ := F_big
    obtain ⟨g1, a1, a2, a3, a4⟩ := l_slm (J := fun μ196 => f_X12_measures_L137 J f' (i + 1) μ196) (c := i) ⟨i0, by omega⟩ ht 4 0 (by decide) (by decide) F (by omega) g hg
    obtain ⟨g', b1, b2, b3, b4⟩ := ih (i + 1) (by omega) (by omega) f' (by omega) g1 a2
    refine ⟨g', ?_, b2, fun k k0 k1 => Int.le_trans (b3 k k0 k1) (a3 k k0 k1), fun c c0 c1 j j0 j1 h1 h2 => ?_⟩
    · rw [f_X12_measures_L137, ← hF2, lt_y (by omega) (by decide) (by omega)]
      simp only [jn_e, nm_q]
      rw [a1, b1]
    · have htt := ht (c * 4 + j) (by omega) (by omega)
      have hb : 0 ≤ ν 1 (137 + (c * 4 + j)) ∧ ν 1 (137 + (c * 4 + j)) < 24 := by omega
      by_cases hc : c = i
      · subst hc
        exact Int.le_trans (b3 _ hb.1 hb.2) (a4 j j0 j1 h1 h2)
      · have w := a3 c (by omega) c1
        have q := b4 c (by omega) c1 j j0 j1 (by omega) h2
        omega
theorem l_slr {J : mu_T → Option (Int × mu_T)} {c : Int} (hc : 0 ≤ c ∧ c < 24) (ht : ∀ k, 0 ≤ k → k < 96 → ν 1 (137 + k) = -15 ∨ (0 ≤ ν 1 (137 + k) ∧ ν 1 (137 + k) < 24)) {r : Int → Bool} {o : Int} : ∀ (n : Nat) (i : Int), 0 ≤ i → i + n = 4 → ∀ f : Nat, n < f → ∀ g : Int → Int, sn9_ r (ej_ (ν 1)) o g → ∃ g' : Int → Int, f_X12_ring_L80 J c f i (um_ ν 8 g) = J (um_ ν 8 g') ∧ sn9_ r (ej_ (ν 1)) o g' ∧ (∀ k, 0 ≤ k → k < 24 → g' k ≤ g k) ∧ (∀ j, i ≤ j → j < 4 → g c < 99 → ν 1 (137 + (c * 4 + j)) ≠ -15 → g' (ν 1 (137 + (c * 4 + j))) ≤ g c + 1) := by
  intro n
  induction n with
  | zero =>
    intro i i0 hi f hf g hg
    obtain ⟨f', rfl⟩ : ∃ f', f = f' + 1 := ⟨f - 1, by omega⟩
    refine ⟨g, ?_, hg, fun _ _ _ => Int.le_refl _, fun j a b => by omega⟩
    rw [f_X12_ring_L80, lt_n (by omega) (by decide) (by omega)]
  | succ n ih =>
    intro i i0 hi f hf g hg
    obtain ⟨f', rfl⟩ : ∃ f', f = f' + 1 := ⟨f - 1, by omega⟩
    have w := hg c hc.1 hc.2
    have ei : (137 + (4 * c)) + i = 137 + (c * 4 + i) := by omega
    have h1 : (um_ ν 8 g) 1 = ν 1 := um_ne (by decide)
    have htt := ht (c * 4 + i) (by omega) (by omega)
    rw [f_X12_ring_L80, lt_y (by omega) (by decide) (by omega), rd_e hc.1 (by omega), um_self]
    simp only [jn_e, nm_q]
    by_cases h : g c < 99
    · rw [lt_y (by omega) (by decide) h, e_at, bd_some, rd_e (by omega) (by omega), h1, ei, rd_e hc.1 (by omega), um_self, e_nears htt hg (by omega), bd_some]
      obtain ⟨g', a1, a2, a3, a4⟩ := ih (i + 1) (by omega) (by omega) f' (by omega) (nr_ g (ν 1 (137 + (c * 4 + i))) (g c + 1)) (sn_nr hc hg h (i := i) i0 (by omega) htt)
      refine ⟨g', a1, a2, fun k k0 k1 => Int.le_trans (a3 k k0 k1) nr_le, fun j j0 j1 j2 j3 => ?_⟩
      have hn : nr_ g (ν 1 (137 + (c * 4 + i))) (g c + 1) c = g c := by
        by_cases hz : ν 1 (137 + (c * 4 + i)) ≠ -15 ∧ g c + 1 < g (ν 1 (137 + (c * 4 + i)))
        · rw [nr_y hz, ur_n (fun q => by rw [← q] at hz; omega)]
        · rw [nr_x hz]
      by_cases hj : j = i
      · subst hj
        have hb : 0 ≤ ν 1 (137 + (c * 4 + j)) ∧ ν 1 (137 + (c * 4 + j)) < 24 := by omega
        exact Int.le_trans (a3 _ hb.1 hb.2) (nr_at j3)
      · have q := a4 j (by omega) j1 (by rw [hn]; exact h) j3
        rw [hn] at q
        exact q
    · rw [lt_n (by omega) (by decide) h]
      obtain ⟨g', a1, a2, a3, a4⟩ := ih (i + 1) (by omega) (by omega) f' (by omega) g hg
      exact ⟨g', a1, a2, a3, fun j j0 j1 j2 j3 => absurd j2 h⟩
theorem l_cer {J : mu_T → Option (Int × mu_T)} (ht : ∀ k, 0 ≤ k → k < 96 → ν 1 (137 + k) = -15 ∨ (0 ≤ ν 1 (137 + k) ∧ ν 1 (137 + k) < 24)) {r : Int → Bool} {o : Int} : ∀ (n : Nat) (i : Int), 0 ≤ i → i + n = 24 → ∀ f : Nat, n < f → ∀ g : Int → Int, sn9_ r (ej_ (ν 1)) o g → ∃ g' : Int → Int, f_X12_ring_L71 J f i (um_ ν 8 g) = J (um_ ν 8 g') ∧ sn9_ r (ej_ (ν 1)) o g' ∧ (∀ k, 0 ≤ k → k < 24 → g' k ≤ g k) ∧ (∀ c, i ≤ c → c < 24 → ∀ j, 0 ≤ j → j < 4 → g c < 99 → ν 1 (137 + (c * 4 + j)) ≠ -15 → g' (ν 1 (137 + (c * 4 + j))) ≤ g c + 1) := by
  intro n
  induction n with
  | zero =>
    intro i i0 hi f hf g hg
    obtain ⟨f', rfl⟩ : ∃ f', f = f' + 1 := ⟨f - 1, by omega⟩
    refine ⟨g, ?_, hg, fun _ _ _ => Int.le_refl _, fun j a b => by omega⟩
    rw [f_X12_ring_L71, lt_n (by omega) (by decide) (by omega)]
  | succ n ih =>
    intro i i0 hi f hf g hg
    obtain ⟨f', rfl⟩ : ∃ f', f = f' + 1 := ⟨f - 1, by omega⟩
    obtain ⟨F, hF, hF2⟩ := F_big
    obtain ⟨g1, a1, a2, a3, a4⟩ := l_slr (J := fun μ196 => f_X12_ring_L71 J f' (i + 1) μ196) (c := i) ⟨i0, by omega⟩ ht 4 0 (by decide) (by decide) F (by omega) g hg
    obtain ⟨g', b1, b2, b3, b4⟩ := ih (i + 1) (by omega) (by omega) f' (by omega) g1 a2
    refine ⟨g', ?_, b2, fun k k0 k1 => Int.le_trans (b3 k k0 k1) (a3 k k0 k1), fun c c0 c1 j j0 j1 h1 h2 => ?_⟩
    · rw [f_X12_ring_L71, ← hF2, lt_y (by omega) (by decide) (by omega)]
      simp only [jn_e, nm_q]
      rw [a1, b1]
    · have htt := ht (c * 4 + j) (by omega) (by omega)
      have hb : 0 ≤ ν 1 (137 + (c * 4 + j)) ∧ ν 1 (137 + (c * 4 + j)) < 24 := by omega
      by_cases hc : c = i
      · subst hc
        exact Int.le_trans (b3 _ hb.1 hb.2) (a4 j j0 j1 h1 h2)
      · have w := a3 c (by omega) c1
        have q := b4 c (by omega) c1 j j0 j1 (by omega) h2
        omega
theorem l_rom (ht : ∀ k, 0 ≤ k → k < 96 → ν 1 (137 + k) = -15 ∨ (0 ≤ ν 1 (137 + k) ∧ ν 1 (137 + k) < 24)) {r : Int → Bool} {o : Int} (ho : 0 ≤ o ∧ o ≤ 1) : ∀ (n i : Nat), i + n = 24 → ∀ f : Nat, n < f → ∀ g : Int → Int, sn9_ r (ej_ (ν 1)) o g → (∀ d : Nat, d ≤ i → ∀ c, 0 ≤ c → c < 24 → rq_ r (ej_ (ν 1)) d c = true → g c ≤ d + o) → ∃ g' : Int → Int, f_X12_measures_L128 f i (um_ ν 8 g) = some (um_ ν 8 g') ∧ sn9_ r (ej_ (ν 1)) o g' ∧ (∀ d : Nat, d ≤ 24 → ∀ c, 0 ≤ c → c < 24 → rq_ r (ej_ (ν 1)) d c = true → g' c ≤ d + o) := by
  intro n
  induction n with
  | zero =>
    intro i hi f hf g hg hU
    obtain ⟨f', rfl⟩ : ∃ f', f = f' + 1 := ⟨f - 1, by omega⟩
    have e : i = 24 := by omega
    subst e
    refine ⟨g, ?_, hg, hU⟩
    rw [f_X12_measures_L128, lt_n (by decide) (by decide) (by decide)]
  | succ n ih =>
    intro i hi f hf g hg hU
    obtain ⟨f', rfl⟩ : ∃ f', f = f' + 1 := ⟨f - 1, by omega⟩
    obtain ⟨F, hF, hF2⟩ := F_big
    obtain ⟨g1, a1, a2, a3, a4⟩ := l_cem (J := fun μ202 => f_X12_measures_L128 f' ((i : Int) + 1) μ202) ht 24 0 (by decide) (by decide) F (by omega) g hg
    obtain ⟨g', b1, b2, b3⟩ := ih (i + 1) (by omega) f' (by omega) g1 a2 (fun d hd c c0 c1 hr => by
      by_cases h : d ≤ i
      · exact Int.le_trans (a3 c c0 c1) (hU d h c c0 c1 hr)
      · have hd2 : d = i + 1 := by omega
        subst hd2
        rcases rc_or hr with z | ⟨b, b01, z1, z2⟩
        · have q1 := hU i (by omega) c c0 c1 z
          have q2 := a3 c c0 c1
          omega
        · have q1 := hU i (by omega) b b01.1 b01.2 z1
          obtain ⟨j, j0, j1, j2⟩ := ex_i.mp z2
          have j3 := of_decide_eq_true j2
          have q2 := a4 b b01.1 b01.2 j j0 (by omega) (by omega) (by omega)
          rw [← j3] at q2
          omega)
    refine ⟨g', ?_, b2, b3⟩
    rw [f_X12_measures_L128, ← hF2, lt_y (by omega) (by decide) (by omega)]
    simp only [jn_e, nm_q]
    rw [a1]
    exact b1
theorem l_ror {J : mu_T → Option (Int × mu_T)} (ht : ∀ k, 0 ≤ k → k < 96 → ν 1 (137 + k) = -15 ∨ (0 ≤ ν 1 (137 + k) ∧ ν 1 (137 + k) < 24)) {r : Int → Bool} {o : Int} (ho : 0 ≤ o ∧ o ≤ 1) : ∀ (n i : Nat), i + n = 24 → ∀ f : Nat, n < f → ∀ g : Int → Int, sn9_ r (ej_ (ν 1)) o g → (∀ d : Nat, d ≤ i → ∀ c, 0 ≤ c → c < 24 → rq_ r (ej_ (ν 1)) d c = true → g c ≤ d + o) → ∃ g' : Int → Int, f_X12_ring_L63 J f i (um_ ν 8 g) = J (um_ ν 8 g') ∧ sn9_ r (ej_ (ν 1)) o g' ∧ (∀ d : Nat, d ≤ 24 → ∀ c, 0 ≤ c → c < 24 → rq_ r (ej_ (ν 1)) d c = true → g' c ≤ d + o) := by
  intro n
  induction n with
  | zero =>
    intro i hi f hf g hg hU
    obtain ⟨f', rfl⟩ : ∃ f', f = f' + 1 := ⟨f - 1, by omega⟩
    have e : i = 24 := by omega
    subst e
    refine ⟨g, ?_, hg, hU⟩
    rw [f_X12_ring_L63, lt_n (by decide) (by decide) (by decide)]
  | succ n ih =>
    intro i hi f hf g hg hU
    obtain ⟨f', rfl⟩ : ∃ f', f = f' + 1 := ⟨f - 1, by omega⟩
    obtain ⟨F, hF, hF2⟩ := F_big
    obtain ⟨g1, a1, a2, a3, a4⟩ := l_cer (J := fun μ202 => f_X12_ring_L63 J f' ((i : Int) + 1) μ202) ht 24 0 (by decide) (by decide) F (by omega) g hg
    obtain ⟨g', b1, b2, b3⟩ := ih (i + 1) (by omega) f' (by omega) g1 a2 (fun d hd c c0 c1 hr => by
      by_cases h : d ≤ i
      · exact Int.le_trans (a3 c c0 c1) (hU d h c c0 c1 hr)
      · have hd2 : d = i + 1 := by omega
        subst hd2
        rcases rc_or hr with z | ⟨b, b01, z1, z2⟩
        · have q1 := hU i (by omega) c c0 c1 z
          have q2 := a3 c c0 c1
          omega
        · have q1 := hU i (by omega) b b01.1 b01.2 z1
          obtain ⟨j, j0, j1, j2⟩ := ex_i.mp z2
          have j3 := of_decide_eq_true j2
          have q2 := a4 b b01.1 b01.2 j j0 (by omega) (by omega) (by omega)
          rw [← j3] at q2
          omega)
    refine ⟨g', ?_, b2, b3⟩
    rw [f_X12_ring_L63, ← hF2, lt_y (by omega) (by decide) (by omega)]
    simp only [jn_e, nm_q]
    rw [a1]
    exact b1
theorem l_f2 {J : mu_T → Option mu_T} : ∀ (n : Nat) (i : Int), 0 ≤ i → i + n = 24 → ∀ f : Nat, n < f → ∀ g : Int → Int, (∀ k, 0 ≤ k → k < i → g k = 99) → ∃ g' : Int → Int, f_X12_measures_L2 J f i (um_ ν 8 g) = J (um_ ν 8 g') ∧ ∀ k, 0 ≤ k → k < 24 → g' k = 99 := by
  intro n
  induction n with
  | zero =>
    intro i i0 hi f hf g hg
    obtain ⟨f', rfl⟩ : ∃ f', f = f' + 1 := ⟨f - 1, by omega⟩
    refine ⟨g, ?_, fun k k0 k1 => hg k k0 (by omega)⟩
    rw [f_X12_measures_L2, lt_n (by omega) (by decide) (by omega)]
  | succ n ih =>
    intro i i0 hi f hf g hg
    obtain ⟨f', rfl⟩ : ∃ f', f = f' + 1 := ⟨f - 1, by omega⟩
    obtain ⟨g', a1, a2⟩ := ih (i + 1) (by omega) (by omega) f' (by omega) (ur_ g i 99) (fun k k0 k1 => by
      unfold ur_
      split
      · rfl
      · exact hg k k0 (by omega))
    refine ⟨g', ?_, a2⟩
    rw [f_X12_measures_L2, lt_y (by omega) (by decide) (by omega), wr_e i0 (by omega), st_um, nm_q, a1]
theorem l_f13 {J : mu_T → Option (Int × mu_T)} : ∀ (n : Nat) (i : Int), 0 ≤ i → i + n = 24 → ∀ f : Nat, n < f → ∀ g : Int → Int, (∀ k, 0 ≤ k → k < i → g k = 99) → ∃ g' : Int → Int, f_X12_ring_L13 J f i (um_ ν 8 g) = J (um_ ν 8 g') ∧ ∀ k, 0 ≤ k → k < 24 → g' k = 99 := by
  intro n
  induction n with
  | zero =>
    intro i i0 hi f hf g hg
    obtain ⟨f', rfl⟩ : ∃ f', f = f' + 1 := ⟨f - 1, by omega⟩
    refine ⟨g, ?_, fun k k0 k1 => hg k k0 (by omega)⟩
    rw [f_X12_ring_L13, lt_n (by omega) (by decide) (by omega)]
  | succ n ih =>
    intro i i0 hi f hf g hg
    obtain ⟨f', rfl⟩ : ∃ f', f = f' + 1 := ⟨f - 1, by omega⟩
    obtain ⟨g', a1, a2⟩ := ih (i + 1) (by omega) (by omega) f' (by omega) (ur_ g i 99) (fun k k0 k1 => by
      unfold ur_
      split
      · rfl
      · exact hg k k0 (by omega))
    refine ⟨g', ?_, a2⟩
    rw [f_X12_ring_L13, lt_y (by omega) (by decide) (by omega), wr_e i0 (by omega), st_um, nm_q, a1]
/-- at first: v where p is, 99 elsewhere -/
def in_ (v : Int) (p : Int → Bool) (g : Int → Int) : Prop := ∀ c, 0 ≤ c → c < 24 → g c = if p c = true then v else 99
theorem in_b {v : Int} {p : Int → Bool} {g : Int → Int} (hv : v = 0 ∨ v = 1) (h : in_ v p g) : ∀ c, 0 ≤ c → c < 24 → 0 ≤ g c ∧ g c ≤ 99 := fun c c0 c1 => by
  rw [h c c0 c1]
  split <;> omega
theorem in_e {v : Int} {p q : Int → Bool} {g : Int → Int} (hpq : ∀ c, 0 ≤ c → c < 24 → p c = q c) (h : in_ v p g) : in_ v q g := fun c c0 c1 => by
  rw [← hpq c c0 c1]
  exact h c c0 c1
theorem in_nr {v c : Int} {p : Int → Bool} {g : Int → Int} (hv : v = 0 ∨ v = 1) (h : in_ v p g) : in_ v (fun k => p k || decide (k = c)) (nr_ g c v) := fun k k0 k1 => by
  have w := h k k0 k1
  show nr_ g c v k = if (p k || decide (k = c)) = true then v else 99
  by_cases hz : c ≠ -15 ∧ v < g c
  · rw [nr_y hz]
    by_cases hk : k = c
    · rw [hk, ur_y, decide_eq_true rfl, Bool.or_true, if_pos rfl]
    · rw [ur_n hk, decide_eq_false hk, Bool.or_false]
      exact w
  · rw [nr_x hz]
    by_cases hk : k = c
    · rw [decide_eq_true hk, Bool.or_true, if_pos rfl]
      rw [← hk] at hz
      by_cases hp : p k = true
      · rw [if_pos hp] at w
        exact w
      · rw [if_neg hp] at w
        omega
    · rw [decide_eq_false hk, Bool.or_false]
      exact w
theorem in_sn {v : Int} {p : Int → Bool} {e : Int → Int → Bool} {g : Int → Int} (hv : v = 0 ∨ v = 1) (h : in_ v p g) : sn9_ p e v g ∧ ∀ d : Nat, d ≤ 0 → ∀ c, 0 ≤ c → c < 24 → rq_ p e d c = true → g c ≤ d + v := by
  refine ⟨fun c c0 c1 => ⟨in_b hv h c c0 c1, fun hl => ?_⟩, fun d hd c c0 c1 hr => ?_⟩
  · have w := h c c0 c1
    by_cases hp : p c = true
    · rw [if_pos hp] at w
      rw [w, Int.sub_self]
      exact ⟨Int.le_refl _, hp⟩
    · rw [if_neg hp] at w
      omega
  · have e0 : d = 0 := by omega
    subst e0
    have w := h c c0 c1
    have hp : p c = true := hr
    rw [if_pos hp] at w
    omega
/-- what is known of the distances -/
def fj_ (r : Int → Bool) (e : Int → Int → Bool) (o : Int) (g : Int → Int) : Prop := ∀ c, 0 ≤ c → c < 24 → (0 ≤ g c ∧ g c ≤ 99) ∧ ((g c < 99 ∧ rq_ r e 24 c = true ∧ ∃ d : Nat, d < 24 ∧ g c = d + o ∧ rq_ r e d c = true ∧ ∀ d', d' < d → rq_ r e d' c = false) ∨ (g c = 99 ∧ ∀ d, rq_ r e d c = false))
theorem fr_of {r : Int → Bool} {e : Int → Int → Bool} {o : Int} {g : Int → Int} (ho : 0 ≤ o ∧ o ≤ 1) (hs : sn9_ r e o g) (hU : ∀ d : Nat, d ≤ 24 → ∀ c, 0 ≤ c → c < 24 → rq_ r e d c = true → g c ≤ d + o) : fj_ r e o g := fun c c0 c1 => by
  have w := hs c c0 c1
  refine ⟨w.1, ?_⟩
  by_cases h : g c < 99
  · obtain ⟨w1, w2⟩ := w.2 h
    have q := rc_24 c0 c1 w2
    have q2 := hU 23 (by omega) c c0 c1 q
    refine Or.inl ⟨h, rc_up q, (g c - o).toNat, by omega, by omega, w2, fun d' hd => ?_⟩
    refine Bool.eq_false_iff.mpr (fun z => ?_)
    have q3 := hU d' (by omega) c c0 c1 z
    omega
  · refine Or.inr ⟨by omega, fun d => Bool.eq_false_iff.mpr (fun z => ?_)⟩
    have q := rc_24 c0 c1 z
    have q2 := hU 23 (by omega) c c0 c1 q
    omega
-- what is held from outside, as the reference has it
theorem l_24 {J : mu_T → Option mu_T} (hn : ∀ k, 0 ≤ k → k < 6 → ν 1 (11 + k) = -15 ∨ (0 ≤ ν 1 (11 + k) ∧ ν 1 (11 + k) < 24)) {a : Int} (ha : rg_ a) : ∀ (n i : Nat), i + n = 6 → ∀ f : Nat, n < f → ∀ g : Int → Int, in_ 0 (fun k => ex_ (fun j => !decide (j = a) && decide (k = ν 1 (11 + j))) i) g → ∃ g' : Int → Int, f_X12_measures_L24 J a f i (um_ ν 8 g) = J (um_ ν 8 g') ∧ in_ 0 (fun k => ex_ (fun j => !decide (j = a) && decide (k = ν 1 (11 + j))) 6) g' := by
  intro n
  induction n with
  | zero =>
    intro i hi f hf g hg
    obtain ⟨f', rfl⟩ : ∃ f', f = f' + 1 := ⟨f - 1, by omega⟩
    have e : i = 6 := by omega
    subst e
    refine ⟨g, ?_, hg⟩
    rw [f_X12_measures_L24, lt_n (by decide) (by decide) (by decide)]
  | succ n ih =>
    intro i hi f hf g hg
    obtain ⟨f', rfl⟩ : ∃ f', f = f' + 1 := ⟨f - 1, by omega⟩
    have h1 : (um_ ν 8 g) 1 = ν 1 := um_ne (by decide)
    rw [f_X12_measures_L24, lt_y (by omega) (by decide) (by omega)]
    simp only [jn_e, nm_q]
    by_cases v : (i : Int) = a
    · rw [eq_y v]
      have q := ih (i + 1) (by omega) f' (by omega) g (in_e (fun k k0 k1 => by
        rw [ex_s, decide_eq_true v, Bool.not_true, Bool.false_and, Bool.or_false]) hg)
      exact q
    · rw [eq_n (by omega) ha v, rd_e (by omega) (by omega), h1, e_nr (hn i (by omega) (by omega)) (in_b (Or.inl rfl) hg) (by decide), bd_some]
      have q := ih (i + 1) (by omega) f' (by omega) _ (in_e (fun k k0 k1 => by
        rw [ex_s, decide_eq_false v, Bool.not_false, Bool.true_and]) (in_nr (Or.inl rfl) hg))
      exact q
theorem l_57 {J : mu_T → Option mu_T} {N : Nat} (hN : ν 1 9 = N) (hN2 : N ≤ 24) (hd : ∀ k : Int, 0 ≤ k → k < N → 0 ≤ ν 1 (257 + k) ∧ ν 1 (257 + k) < 24) {b : Int → Bool} : ∀ (n i : Nat), i + n = N → ∀ f : Nat, n < f → ∀ g : Int → Int, in_ 0 (fun k => b k || ex_ (fun j => decide (k = ν 1 (257 + j))) i) g → ∃ g' : Int → Int, f_X12_measures_L57 J f i (um_ ν 8 g) = J (um_ ν 8 g') ∧ in_ 0 (fun k => b k || ex_ (fun j => decide (k = ν 1 (257 + j))) N) g' := by
  intro n
  induction n with
  | zero =>
    intro i hi f hf g hg
    obtain ⟨f', rfl⟩ : ∃ f', f = f' + 1 := ⟨f - 1, by omega⟩
    have e : i = N := by omega
    subst e
    have h1 : (um_ ν 8 g) 1 = ν 1 := um_ne (by decide)
    refine ⟨g, ?_, hg⟩
    rw [f_X12_measures_L57, rd_e (by decide) (by decide), h1, hN, lt_n (by omega) (by omega) (by omega)]
  | succ n ih =>
    intro i hi f hf g hg
    obtain ⟨f', rfl⟩ : ∃ f', f = f' + 1 := ⟨f - 1, by omega⟩
    have h1 : (um_ ν 8 g) 1 = ν 1 := um_ne (by decide)
    rw [f_X12_measures_L57, rd_e (by decide) (by decide), h1, hN, lt_y (by omega) (by omega) (by omega), rd_e (by omega) (by omega), h1, e_nr (Or.inr (hd i (by omega) (by omega))) (in_b (Or.inl rfl) hg) (by decide), bd_some, nm_q]
    have q := ih (i + 1) (by omega) f' (by omega) _ (in_e (fun k k0 k1 => by
      rw [ex_s, Bool.or_assoc]) (in_nr (Or.inl rfl) hg))
    exact q
theorem l_91 {J : mu_T → Option mu_T} (hr : ∀ c, 0 ≤ c → c < 24 → 0 ≤ ν 1 (65 + c) ∧ ν 1 (65 + c) ≤ 2) {w : Int} (hw : w = 0 ∨ w = 1) {b : Int → Bool} : ∀ (n i : Nat), i + n = 24 → ∀ f : Nat, n < f → ∀ g : Int → Int, in_ 0 (fun k => b k || ex_ (fun j => decide (w = 1 ∧ ν 1 (65 + j) = 1) && decide (k = j)) i) g → ∃ g' : Int → Int, f_X12_measures_L91 J w f i (um_ ν 8 g) = J (um_ ν 8 g') ∧ in_ 0 (fun k => b k || ex_ (fun j => decide (w = 1 ∧ ν 1 (65 + j) = 1) && decide (k = j)) 24) g' := by
  intro n
  induction n with
  | zero =>
    intro i hi f hf g hg
    obtain ⟨f', rfl⟩ : ∃ f', f = f' + 1 := ⟨f - 1, by omega⟩
    have e : i = 24 := by omega
    subst e
    refine ⟨g, ?_, hg⟩
    rw [f_X12_measures_L91, lt_n (by decide) (by decide) (by decide)]
  | succ n ih =>
    intro i hi f hf g hg
    obtain ⟨f', rfl⟩ : ∃ f', f = f' + 1 := ⟨f - 1, by omega⟩
    have h1 : (um_ ν 8 g) 1 = ν 1 := um_ne (by decide)
    have w1 := hr i (by omega) (by omega)
    have stay : ¬ (w = 1 ∧ ν 1 (65 + (i : Int)) = 1) → ∃ g' : Int → Int, f_X12_measures_L91 J w f' ((i : Int) + 1) (um_ ν 8 g) = J (um_ ν 8 g') ∧ in_ 0 (fun k => b k || ex_ (fun j => decide (w = 1 ∧ ν 1 (65 + j) = 1) && decide (k = j)) 24) g' := fun hn => by
      have q := ih (i + 1) (by omega) f' (by omega) g (in_e (fun k k0 k1 => by
        rw [ex_s, decide_eq_false hn, Bool.false_and, Bool.or_false]) hg)
      exact q
    rw [f_X12_measures_L91, lt_y (by omega) (by decide) (by omega)]
    simp only [jn_e, nm_q]
    rcases hw with rfl | rfl
    · rw [eq_y rfl]
      exact stay (fun z => absurd z.1 (by decide))
    · rw [eq_n (by decide) (by decide) (by decide), rd_e (by omega) (by omega), h1]
      by_cases v : ν 1 (65 + (i : Int)) = 1
      · rw [eq_y v, e_nr (Or.inr ⟨by omega, by omega⟩) (in_b (Or.inl rfl) hg) (by decide), bd_some]
        have q := ih (i + 1) (by omega) f' (by omega) _ (in_e (fun k k0 k1 => by
          rw [ex_s, decide_eq_true (show (1 : Int) = 1 ∧ ν 1 (65 + (i : Int)) = 1 from ⟨rfl, v⟩), Bool.true_and, Bool.or_assoc]) (in_nr (Or.inl rfl) hg))
        exact q
      · rw [eq_n (by omega) (by decide) v]
        exact stay (fun z => v z.2)
/-- the roots, with the urns whose rite is to be done if asked so -/
def rw_ (s : Int → Int) (a w k : Int) : Bool := rt_ s a k || decide (w = 1 ∧ s (65 + k) = 1)
theorem e_measures {t : Int} (hI : iv_ t (ν 1)) {a w : Int} (ha : rg_ a) (hw : w = 0 ∨ w = 1) : ∃ g : Int → Int, f_X12_measures ν a w = some (um_ ν 8 g) ∧ fj_ (rw_ (ν 1) a w) (ej_ (ν 1)) 0 g := by
  obtain ⟨F, hF, hF2⟩ := F_big
  have hn : ∀ k, 0 ≤ k → k < 6 → ν 1 (11 + k) = -15 ∨ (0 ≤ ν 1 (11 + k) ∧ ν 1 (11 + k) < 24) := fun k k0 k1 => ft_or (hI.2.2.2.2.1 k k0 k1).1
  have ht : ∀ k, 0 ≤ k → k < 96 → ν 1 (137 + k) = -15 ∨ (0 ≤ ν 1 (137 + k) ∧ ν 1 (137 + k) < 24) := fun k k0 k1 => ft_or (hI.2.2.1 k k0 k1)
  have hle := iv_le hI
  have hD := hI.2.2.2.2.2.1
  have hN : ν 1 9 = ((ν 1 9).toNat : Int) := by omega
  obtain ⟨g1, a1, a2⟩ := l_f2 (ν := ν) (J := fun μ22 => f_X12_measures_L24 (fun μ55 => f_X12_measures_L57 (fun μ89 => f_X12_measures_L91 (fun μ126 => f_X12_measures_L128 F 0 μ126) w F 0 μ89) F 0 μ55) a F 0 μ22) 24 0 (by decide) (by decide) F (by omega) (ν 8) (fun k _ _ => by omega)
  obtain ⟨g2, b1, b2⟩ := l_24 (ν := ν) (J := fun μ55 => f_X12_measures_L57 (fun μ89 => f_X12_measures_L91 (fun μ126 => f_X12_measures_L128 F 0 μ126) w F 0 μ89) F 0 μ55) hn ha 6 0 (by decide) F (by omega) g1 (fun c c0 c1 => a2 c c0 c1)
  obtain ⟨g3, c1, c2⟩ := l_57 (ν := ν) (J := fun μ89 => f_X12_measures_L91 (fun μ126 => f_X12_measures_L128 F 0 μ126) w F 0 μ89) hN (by omega) (fun k k0 k1 => (hD.2.1 k k0 (by omega)).1) (ν 1 9).toNat 0 (by omega) F (by omega) g2 (in_e (fun k _ _ => (Bool.or_false _).symm) b2)
  obtain ⟨g4, d1, d2⟩ := l_91 (ν := ν) (J := fun μ126 => f_X12_measures_L128 F 0 μ126) (fun c c0 c1 => (hI.1 c c0 c1).2.2.1) hw 24 0 (by decide) F (by omega) g3 (in_e (fun k _ _ => (Bool.or_false _).symm) c2)
  have d3 : in_ 0 (rw_ (ν 1) a w) g4 := in_e (fun k k0 k1 => by
    show (_ || _ || _) = _
    rw [ex_one k0 k1]
    unfold rw_ rt_
    rw [Bool.or_comm (ex_ _ 6)]
    congr 2
    refine bo_i ⟨fun h => ?_, fun h => ?_⟩
    · obtain ⟨j, j0, j1, j2⟩ := ex_i.mp h
      have j3 := of_decide_eq_true j2
      have w := hD.2.1 j j0 (by omega)
      rw [← j3] at w
      have w2 := hI.1 k k0 k1
      exact decide_eq_true ⟨by omega, w.2.1⟩
    · have h2 := of_decide_eq_true h
      obtain ⟨j, j0, j1, j2⟩ := hD.2.2.2 k k0 k1 h2.2
      exact ex_i.mpr ⟨j, j0, by omega, decide_eq_true j2.symm⟩) d2
  obtain ⟨e1, e2⟩ := in_sn (e := ej_ (ν 1)) (Or.inl rfl) d3
  obtain ⟨g5, f1, f2, f3⟩ := l_rom (ν := ν) ht (o := 0) (by decide) 24 0 (by decide) F (by omega) g4 e1 e2
  refine ⟨g5, ?_, fr_of (by decide) f2 f3⟩
  unfold f_X12_measures
  rw [← hF2]
  simp only [jn_e]
  have eν : ν = um_ ν 8 (ν 8) := um_id.symm
  have q : f_X12_measures_L2 (fun μ22 => f_X12_measures_L24 (fun μ55 => f_X12_measures_L57 (fun μ89 => f_X12_measures_L91 (fun μ126 => f_X12_measures_L128 F 0 μ126) w F 0 μ89) F 0 μ55) a F 0 μ22) F 0 (um_ ν 8 (ν 8)) = some (um_ ν 8 g5) := a1.trans (b1.trans (c1.trans (d1.trans f1)))
  rw [um_id] at q
  exact q
theorem l_35 {J : mu_T → Option (Int × mu_T)} (ht : ∀ k, 0 ≤ k → k < 96 → ν 1 (137 + k) = -15 ∨ (0 ≤ ν 1 (137 + k) ∧ ν 1 (137 + k) < 24)) {a : Int} (ha : 0 ≤ a ∧ a < 24) : ∀ (n i : Nat), i + n = 4 → ∀ f : Nat, n < f → ∀ g : Int → Int, in_ 1 (fun k => ex_ (fun j => decide (k = ν 1 (137 + (a * 4 + j)))) i) g → ∃ g' : Int → Int, f_X12_ring_L35 J a f i (um_ ν 8 g) = J (um_ ν 8 g') ∧ in_ 1 (ej_ (ν 1) a) g' := by
  intro n
  induction n with
  | zero =>
    intro i hi f hf g hg
    obtain ⟨f', rfl⟩ : ∃ f', f = f' + 1 := ⟨f - 1, by omega⟩
    have e : i = 4 := by omega
    subst e
    refine ⟨g, ?_, hg⟩
    rw [f_X12_ring_L35, lt_n (by decide) (by decide) (by decide)]
  | succ n ih =>
    intro i hi f hf g hg
    obtain ⟨f', rfl⟩ : ∃ f', f = f' + 1 := ⟨f - 1, by omega⟩
    have h1 : (um_ ν 8 g) 1 = ν 1 := um_ne (by decide)
    have ei : (137 + (4 * a)) + (i : Int) = 137 + (a * 4 + i) := by omega
    rw [f_X12_ring_L35, lt_y (by omega) (by decide) (by omega), e_at, bd_some, rd_e (by omega) (by omega), h1, ei, e_nr (ht _ (by omega) (by omega)) (in_b (Or.inr rfl) hg) (by decide), bd_some, nm_q]
    have q := ih (i + 1) (by omega) f' (by omega) _ (in_e (fun k k0 k1 => by
      rw [ex_s]) (in_nr (Or.inr rfl) hg))
    exact q
-- the reference's set
theorem l_re {g : Int → Int} (hg : ∀ c, 0 ≤ c → c < 24 → 0 ≤ g c ∧ g c ≤ 99) : ∀ (n i : Nat), i + n = 24 → ∀ f : Nat, n < f → ∀ x, mk_ x (fun k => ex_ (fun j => decide (g j < 99) && decide (k = j)) i) → ∃ y, f_X12_reached_L4 (um_ ν 8 g) f x i = some y ∧ mk_ y (fun k => ex_ (fun j => decide (g j < 99) && decide (k = j)) 24) := by
  intro n
  induction n with
  | zero =>
    intro i hi f hf x hx
    obtain ⟨f', rfl⟩ : ∃ f', f = f' + 1 := ⟨f - 1, by omega⟩
    have e : i = 24 := by omega
    subst e
    refine ⟨x, ?_, hx⟩
    rw [f_X12_reached_L4, lt_n (by decide) (by decide) (by decide)]
  | succ n ih =>
    intro i hi f hf x hx
    obtain ⟨f', rfl⟩ : ∃ f', f = f' + 1 := ⟨f - 1, by omega⟩
    have w := hg i (by omega) (by omega)
    rw [f_X12_reached_L4, lt_y (by omega) (by decide) (by omega), rd_e (by omega) (by omega), um_self]
    simp only [jn_e, nm_q]
    by_cases h : g (i : Int) < 99
    · rw [lt_y (by omega) (by decide) h]
      have q := ih (i + 1) (by omega) f' (by omega) (or_ x (sl_ 1 i)) (mk_e (fun k k0 k1 => by
        rw [ex_s, decide_eq_true h, Bool.true_and]) (mk_or hx (mk_s ⟨by omega, by omega⟩)))
      exact q
    · rw [lt_n (by omega) (by decide) h]
      have q := ih (i + 1) (by omega) f' (by omega) (or_ x 0) (mk_e (fun k k0 k1 => by
        rw [ex_s, decide_eq_false h, Bool.false_and]) (mk_or hx mk_0))
      exact q
theorem e_reached {g : Int → Int} (hg : ∀ c, 0 ≤ c → c < 24 → 0 ≤ g c ∧ g c ≤ 99) : ∃ y, f_X12_reached (um_ ν 8 g) = some y ∧ mk_ y (fun k => decide (g k < 99)) := by
  obtain ⟨F, hF, hF2⟩ := F_big
  unfold f_X12_reached
  rw [← hF2]
  obtain ⟨y, e1, e2⟩ := l_re (ν := ν) hg 24 0 (by decide) F (by omega) 0 mk_0
  exact ⟨y, e1, mk_e (fun k k0 k1 => ex_one k0 k1) e2⟩
theorem fr_99 {r : Int → Bool} {e : Int → Int → Bool} {o : Int} {g : Int → Int} (h : fj_ r e o g) : (∀ c, 0 ≤ c → c < 24 → 0 ≤ g c ∧ g c ≤ 99) ∧ ∀ c, 0 ≤ c → c < 24 → decide (g c < 99) = rq_ r e 24 c := by
  refine ⟨fun c c0 c1 => (h c c0 c1).1, fun c c0 c1 => ?_⟩
  rcases (h c c0 c1).2 with ⟨z1, z2, -⟩ | ⟨z1, z2⟩
  · rw [z2, decide_eq_true z1]
  · rw [z2, decide_eq_false (by omega)]
end FA
