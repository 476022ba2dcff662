/-! what the marking and the sweeping keep: threads of empty cells, of black urns, of urns that are kept, colours -/
def iv_B (s : Int → Int) : Prop := (∀ k, 0 ≤ k → k < 96 → s (17 + k / 4) = 0 → s (137 + k) = -15) ∧ (s 0 = 1 → ∀ k, 0 ≤ k → k < 96 → s (41 + k / 4) = 2 → s (137 + k) ≠ -15 → s (41 + s (137 + k)) ≠ 0) ∧ (s 0 = 2 → ∀ k, 0 ≤ k → k < 96 → s (137 + k) ≠ -15 → ¬ (s (41 + k / 4) = 0 ∧ s 1 ≤ k / 4) → ¬ (s (41 + s (137 + k)) = 0 ∧ s 1 ≤ s (137 + k))) ∧ (s 0 = 0 → ∀ c, 0 ≤ c → c < 24 → s (41 + c) = 0) ∧ (s 0 = 2 → ∀ c, 0 ≤ c → c < 24 → c < s 1 → s (41 + c) = 0)
section IB
variable {s s' : Int → Int} {c : Int}
theorem iv_B_k (hH : iv_H s) (h0 : s' 0 = s 0) (h1 : s' 1 = s 1) (h17 : ∀ j, 17 ≤ j → j < 65 → s' j = s j) (h137 : ∀ k, 0 ≤ k → k < 96 → s' (137 + k) = s (137 + k)) (hB : iv_B s) : iv_B s' := by
  obtain ⟨b0, b1, b2, b3, b4⟩ := hB
  have hr : ∀ k, 0 ≤ k → k < 96 → s (137 + k) ≠ -15 → 0 ≤ s (137 + k) ∧ s (137 + k) < 24 := fun k k0 k1 ht => by
    rcases hH k k0 k1 with q | q
    · exact absurd q ht
    · exact ⟨q.1, q.2.1⟩
  refine ⟨fun k k0 k1 hk => ?_, fun hp k k0 k1 hk ht => ?_, fun hp k k0 k1 ht hk => ?_, fun hp c c0 c1 => ?_, fun hp c c0 c1 hc => ?_⟩
  · rw [h17 (17 + k / 4) (by omega) (by omega)] at hk
    rw [h137 k k0 k1]
    exact b0 k k0 k1 hk
  · rw [h0] at hp
    rw [h17 (41 + k / 4) (by omega) (by omega)] at hk
    rw [h137 k k0 k1] at ht ⊢
    have q := hr k k0 k1 ht
    rw [h17 (41 + s (137 + k)) (by omega) (by omega)]
    exact b1 hp k k0 k1 hk ht
  · rw [h0] at hp
    rw [h17 (41 + k / 4) (by omega) (by omega), h1] at hk
    rw [h137 k k0 k1] at ht ⊢
    have q := hr k k0 k1 ht
    rw [h17 (41 + s (137 + k)) (by omega) (by omega), h1]
    exact b2 hp k k0 k1 ht hk
  · rw [h0] at hp
    rw [h17 (41 + c) (by omega) (by omega)]
    exact b3 hp c c0 c1
  · rw [h0] at hp
    rw [h1] at hc
    rw [h17 (41 + c) (by omega) (by omega)]
    exact b4 hp c c0 c1 hc
theorem ag_B (hp : s 0 = 1) (hH : iv_H s) (hG : iv_G s) (hc : ft_ s c) (hB : iv_B s) : iv_B (ag_ s c) := by
  have hc2 : c = -15 ∨ (0 ≤ c ∧ c < 24) := by
    rcases hc with q | q
    · exact Or.inl q
    · exact Or.inr ⟨q.1, q.2.1⟩
  obtain ⟨b0, b1, -, -, -⟩ := hB
  have e0 : ag_ s c 0 = s 0 := ag_o hG hc2 (by omega) (by omega) (by omega)
  have e137 : ∀ k, 0 ≤ k → k < 96 → ag_ s c (137 + k) = s (137 + k) := fun k a b => ag_o hG hc2 (by omega) (by omega) (by omega)
  refine ⟨fun k k0 k1 hk => ?_, fun _ k k0 k1 hk ht => ?_, fun q => absurd (e0.symm.trans q) (by omega), fun q => absurd (e0.symm.trans q) (by omega), fun q => absurd (e0.symm.trans q) (by omega)⟩
  · rw [ag_o hG hc2 (show 17 + k / 4 ≠ 8 by omega) (by omega) (by omega)] at hk
    rw [e137 k k0 k1]
    exact b0 k k0 k1 hk
  · rw [e137 k k0 k1] at ht ⊢
    have hr : 0 ≤ s (137 + k) ∧ s (137 + k) < 24 := by
      rcases hH k k0 k1 with q | q
      · exact absurd q ht
      · exact ⟨q.1, q.2.1⟩
    rw [ag_col hG hc2 (x := k / 4) (by omega) (by omega)] at hk
    rw [ag_col hG hc2 (x := s (137 + k)) hr.1 hr.2]
    have hk2 : s (41 + k / 4) = 2 := by
      split at hk <;> omega
    have q := b1 hp k k0 k1 hk2 ht
    split <;> omega
theorem ag_th (hG : iv_G s) {i v : Int} (h0 : 0 ≤ i) (h1 : i < 96) (hc : 0 ≤ c ∧ c < 24) : ag_ (ur_ s (137 + i) v) c = ur_ (ag_ s c) (137 + i) v := by
  have e1 : ur_ s (137 + i) v (41 + c) = s (41 + c) := ur_n (by omega)
  have e8 : ur_ s (137 + i) v 8 = s 8 := ur_n (by omega)
  by_cases h : c ≠ -15 ∧ s (41 + c) = 0
  · have h24 := ag_lt hG hc.1 hc.2 h.2
    have h8 := hG.1.1
    rw [ag_w h, ag_w ⟨h.1, e1.trans h.2⟩, e8]
    funext j
    simp only [ur_]
    repeat' split
    all_goals first | rfl | omega
  · rw [ag_b h, ag_b (fun q => h ⟨q.1, e1.symm.trans q.2⟩)]
/-- a thread is set -/
theorem th_B {i v : Int} (h0 : 0 ≤ i) (h1 : i < 96) (hv : v = -15 ∨ (0 ≤ v ∧ v < 24)) (hH : iv_H s) (c0 : v ≠ -15 → s (17 + i / 4) ≠ 0) (c1 : v ≠ -15 → s 0 = 1 → s (41 + i / 4) = 2 → s (41 + v) ≠ 0) (c2 : v ≠ -15 → s 0 = 2 → ¬ (s (41 + v) = 0 ∧ s 1 ≤ v)) (hB : iv_B s) : iv_B (ur_ s (137 + i) v) := by
  have e : ∀ j, j < 137 → ur_ s (137 + i) v j = s j := fun j hj => ur_n (by omega)
  obtain ⟨b0, b1, b2, b3, b4⟩ := hB
  have hr : ∀ k, 0 ≤ k → k < 96 → s (137 + k) ≠ -15 → 0 ≤ s (137 + k) ∧ s (137 + k) < 24 := fun k k0 k1 ht => by
    rcases hH k k0 k1 with q | q
    · exact absurd q ht
    · exact ⟨q.1, q.2.1⟩
  refine ⟨fun k k0 k1 hk => ?_, fun hp k k0 k1 hk ht => ?_, fun hp k k0 k1 ht hk => ?_, fun hp c c0 c1 => ?_, fun hp c c0 c1 hc => ?_⟩
  · rw [e (17 + k / 4) (by omega)] at hk
    by_cases hi : k = i
    · subst hi
      rw [ur_y]
      rcases hv with q | q
      · exact q
      · exact absurd hk (c0 (by omega))
    · rw [ur_n (by omega)]
      exact b0 k k0 k1 hk
  · rw [e 0 (by omega)] at hp
    rw [e (41 + k / 4) (by omega)] at hk
    by_cases hi : k = i
    · subst hi
      rw [ur_y] at ht ⊢
      rw [e (41 + v) (by omega)]
      exact c1 ht hp hk
    · rw [ur_n (show 137 + k ≠ 137 + i by omega)] at ht ⊢
      have q := hr k k0 k1 ht
      rw [e (41 + s (137 + k)) (by omega)]
      exact b1 hp k k0 k1 hk ht
  · rw [e 0 (by omega)] at hp
    rw [e (41 + k / 4) (by omega), e 1 (by omega)] at hk
    by_cases hi : k = i
    · subst hi
      rw [ur_y] at ht ⊢
      rw [e (41 + v) (by omega), e 1 (by omega)]
      exact c2 ht hp
    · rw [ur_n (show 137 + k ≠ 137 + i by omega)] at ht ⊢
      have q := hr k k0 k1 ht
      rw [e (41 + s (137 + k)) (by omega), e 1 (by omega)]
      exact b2 hp k k0 k1 ht hk
  · rw [e 0 (by omega)] at hp
    rw [e (41 + c) (by omega)]
    exact b3 hp c c0 c1
  · rw [e 0 (by omega)] at hp
    rw [e 1 (by omega)] at hc
    rw [e (41 + c) (by omega)]
    exact b4 hp c c0 c1 hc
/-- a place is changed that neither the marking nor the sweeping looks at -/
theorem ur_B {i v : Int} (hi : (2 ≤ i ∧ i < 17) ∨ (65 ≤ i ∧ i < 137) ∨ 233 ≤ i) (hH : iv_H s) (hB : iv_B s) : iv_B (ur_ s i v) := iv_B_k hH (ur_n (by omega)) (ur_n (by omega)) (fun j a b => ur_n (by omega)) (fun k a b => ur_n (by omega)) hB
/-- the same row -/
def sr_9 (s s' : Int → Int) : Prop := ∀ j, 0 ≤ j → j < 293 → s' j = s j
theorem sr_r : sr_9 s s := fun _ _ _ => rfl
theorem sr_t {s'' : Int → Int} (h : sr_9 s s') (h' : sr_9 s' s'') : sr_9 s s'' := fun j a b => (h' j a b).trans (h j a b)
theorem sr_s (h : sr_9 s s') : sr_9 s' s := fun j a b => (h j a b).symm
theorem sr_B (hH : iv_H s) (h : sr_9 s s') (hB : iv_B s) : iv_B s' := iv_B_k hH (h 0 (by omega) (by omega)) (h 1 (by omega) (by omega)) (fun j a b => h j (by omega) (by omega)) (fun k a b => h _ (by omega) (by omega)) hB
end IB
/-- the row that was kept m changes ago -/
def hw_ (ν : mu_T) (m : Int) : Int → Int := fun j => ν 4 (293 * (ν 0 4 - 1 - m) + j)
/-- what a call does to the row and to the rows that are kept -/
def ev_9 (ν ν1 : mu_T) (r : Int) : Prop := (((r < 0 ∧ r ≠ -15) ∧ sr_9 (ν 1) (ν1 1) ∧ ν1 0 4 = ν 0 4 ∧ ν1 4 = ν 4) ∨ ((r = -15 ∨ 0 ≤ r) ∧ ν1 0 4 = (if ν 0 4 = 8 then 8 else ν 0 4 + 1) ∧ sr_9 (ν 1) (hw_ ν1 0) ∧ (∀ m, 0 ≤ m → m + 1 < ν1 0 4 → sr_9 (hw_ ν m) (hw_ ν1 (m + 1))) ∧ (iv_B (ν 1) → iv_B (ν1 1)))) ∧ (ν 0 10 = 0 → ν1 0 10 = 0) ∧ rg_ r
