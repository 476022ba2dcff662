/-! greying keeps what holds while urns are marked -/
section AG
variable {s : Int → Int} {c : Int}
theorem ag_lt (hG : iv_G s) (h0 : 0 ≤ c) (h1 : c < 24) (hw : s (41 + c) = 0) : s 8 < 24 := by
  rw [hG.1.2]
  exact cn_lt h0 24 (by omega) (by rw [hw]; rfl)
theorem ag_w (h : c ≠ -15 ∧ s (41 + c) = 0) : ag_ s c = ur_ (ur_ (ur_ s (41 + c) 1) (233 + s 8) c) 8 (s 8 + 1) := if_pos h
theorem ag_b (h : ¬ (c ≠ -15 ∧ s (41 + c) = 0)) : ag_ s c = s := if_neg h
/-- other places -/
theorem ag_o (hG : iv_G s) (hc : c = -15 ∨ (0 ≤ c ∧ c < 24)) {j : Int} (h8 : j ≠ 8) (h4 : j < 41 ∨ 65 ≤ j) (h2 : j < 233 ∨ 257 ≤ j) : ag_ s c j = s j := by
  by_cases h : c ≠ -15 ∧ s (41 + c) = 0
  · have hc2 : 0 ≤ c ∧ c < 24 := by omega
    have := ag_lt hG hc2.1 hc2.2 h.2
    have := hG.1.1
    rw [ag_w h, ur_n h8, ur_n (by omega), ur_n (by omega)]
  · rw [ag_b h]
/-- colours -/
theorem ag_col (hG : iv_G s) (hc : c = -15 ∨ (0 ≤ c ∧ c < 24)) {x : Int} (h0 : 0 ≤ x) (h1 : x < 24) : ag_ s c (41 + x) = if x = c ∧ s (41 + x) = 0 then 1 else s (41 + x) := by
  by_cases h : c ≠ -15 ∧ s (41 + c) = 0
  · have hc2 : 0 ≤ c ∧ c < 24 := by omega
    have := ag_lt hG hc2.1 hc2.2 h.2
    have := hG.1.1
    rw [ag_w h, ur_n (by omega), ur_n (by omega)]
    by_cases hx : x = c
    · subst hx
      rw [ur_y, if_pos ⟨rfl, h.2⟩]
    · rw [ur_n (by omega), if_neg (fun q => hx q.1)]
  · rw [ag_b h, if_neg (fun q => h ⟨by omega, by rw [← q.1]; exact q.2⟩)]
theorem ag_T (hT : iv_T s) (hG : iv_G s) (hc : ft_ s c) : iv_T (ag_ s c) := fun x x0 x1 => by
  have hc2 : c = -15 ∨ (0 ≤ c ∧ c < 24) := by rcases hc with q | q; exact Or.inl q; exact Or.inr ⟨q.1, q.2.1⟩
  have q := hT x x0 x1
  rw [ag_o hG hc2 (by omega) (by omega) (by omega), ag_o hG hc2 (show 65 + x ≠ 8 by omega) (by omega) (by omega), ag_col hG hc2 x0 x1]
  refine ⟨q.1, ?_, q.2.2.1, fun z => ⟨?_, (q.2.2.2 z).2⟩⟩
  · have := q.2.1
    omega
  · by_cases hx : x = c ∧ s (41 + x) = 0
    · exfalso
      rcases hc with w | w
      · omega
      · rw [hx.1, w.2.2] at z
        omega
    · rw [if_neg hx]
      exact (q.2.2.2 z).1
theorem ag_P (hP : iv_P s) (hG : iv_G s) (hc : c = -15 ∨ (0 ≤ c ∧ c < 24)) : iv_P (ag_ s c) := iv_P_k ⟨ag_o hG hc (by omega) (by omega) (by omega), ag_o hG hc (by omega) (by omega) (by omega)⟩ hP
theorem ag_H (hH : iv_H s) (hG : iv_G s) (hc : c = -15 ∨ (0 ≤ c ∧ c < 24)) : iv_H (ag_ s c) := iv_H_k (fun j a b => ag_o hG hc (by omega) (by omega) (by omega)) (fun k a b => Or.inl (ag_o hG hc (by omega) (by omega) (by omega))) hH
theorem ag_ft (hG : iv_G s) (hc : c = -15 ∨ (0 ≤ c ∧ c < 24)) {x : Int} (hx : ft_ s x) : ft_ (ag_ s c) x := ft_k (fun j a b => ag_o hG hc (by omega) (by omega) (by omega)) hx
theorem ag_sf (hp : s 0 = 1) (hG : iv_G s) (hc : c = -15 ∨ (0 ≤ c ∧ c < 24)) {x : Int} (x0 : 0 ≤ x) (x1 : x < 24) (hx : sf_ s x) : sf_ (ag_ s c) x := by
  unfold sf_
  rw [ag_o hG hc (show (0 : Int) ≠ 8 by omega) (by omega) (by omega), ag_col hG hc x0 x1]
  have q := hx.1 hp
  refine ⟨fun _ => ?_, fun z => by omega⟩
  rw [if_neg (fun w => q w.2)]
  exact q
theorem ag_W (hp : s 0 = 1) (hW : iv_W s) (hG : iv_G s) (hc : c = -15 ∨ (0 ≤ c ∧ c < 24)) : iv_W (ag_ s c) := fun x x0 x1 => by
  rw [ag_o hG hc (show 113 + x ≠ 8 by omega) (by omega) (by omega), ag_o hG hc (show (0 : Int) ≠ 8 by omega) (by omega) (by omega)]
  exact ⟨ag_ft hG hc (hW x x0 x1).1, fun z => by omega⟩
theorem ag_M (hp : s 0 = 1) (hM : iv_M s) (hG : iv_G s) (hc : c = -15 ∨ (0 ≤ c ∧ c < 24)) : iv_M (ag_ s c) := fun k k0 k1 => by
  rw [ag_o hG hc (show 11 + k ≠ 8 by omega) (by omega) (by omega)]
  have q := hM k k0 k1
  refine ⟨ag_ft hG hc q.1, fun z => ?_⟩
  have hb := ft_in q.1 z
  exact ag_sf hp hG hc hb.1 hb.2 (q.2 z)
theorem ag_D (hp : s 0 = 1) (hD : iv_D s) (hG : iv_G s) (hc : c = -15 ∨ (0 ≤ c ∧ c < 24)) : iv_D (ag_ s c) := by
  obtain ⟨⟨d0, d1⟩, d2, d3, d4⟩ := hD
  have h9 : ag_ s c 9 = s 9 := ag_o hG hc (by omega) (by omega) (by omega)
  have h65 : ∀ x, 0 ≤ x → x < 24 → ag_ s c (65 + x) = s (65 + x) := fun x a b => ag_o hG hc (by omega) (by omega) (by omega)
  have hle : s 9 ≤ 24 := by
    rw [d1]
    exact cn_le _ 24
  have h257 : ∀ k, 0 ≤ k → ag_ s c (257 + k) = s (257 + k) := fun k a => ag_o hG hc (by omega) (by omega) (by omega)
  refine ⟨⟨by rw [h9]; exact d0, ?_⟩, fun k k0 k1 => ?_, fun j k j0 jk k1 => ?_, fun x x0 x1 hx => ?_⟩
  · rw [h9, d1]
    exact cn_eq 24 (fun x a b => by rw [h65 x a (by omega)])
  · rw [h9] at k1
    obtain ⟨q0, q1, q2⟩ := d2 k k0 k1
    rw [h257 k k0]
    exact ⟨q0, by rw [h65 _ q0.1 q0.2]; exact q1, ag_sf hp hG hc q0.1 q0.2 q2⟩
  · rw [h9] at k1
    rw [h257 j j0, h257 k (by omega)]
    exact d3 j k j0 jk k1
  · rw [h65 x x0 x1] at hx
    obtain ⟨k, k0, k1, k2⟩ := d4 x x0 x1 hx
    exact ⟨k, k0, by rw [h9]; exact k1, by rw [h257 k k0]; exact k2⟩
theorem ag_G (hp : s 0 = 1) (hG : iv_G s) (hc : c = -15 ∨ (0 ≤ c ∧ c < 24)) : iv_G (ag_ s c) := by
  by_cases h : c ≠ -15 ∧ s (41 + c) = 0
  · have hc2 : 0 ≤ c ∧ c < 24 := by omega
    have h24 := ag_lt hG hc2.1 hc2.2 h.2
    obtain ⟨⟨d0, d1⟩, d2, d3, d4⟩ := id hG
    have h8 : ag_ s c 8 = s 8 + 1 := by rw [ag_w h, ur_y]
    have h233 : ∀ k, 0 ≤ k → k < 24 → ag_ s c (233 + k) = if k = s 8 then c else s (233 + k) := fun k a b => by
      rw [ag_w h, ur_n (by omega)]
      by_cases hk : k = s 8
      · subst hk
        rw [ur_y, if_pos rfl]
      · rw [ur_n (by omega), ur_n (by omega), if_neg hk]
    refine ⟨⟨by rw [h8]; omega, ?_⟩, fun k k0 k1 => ?_, fun j k j0 jk k1 => ?_, fun z => absurd ((ag_o hG hc (show (0 : Int) ≠ 8 by omega) (by omega) (by omega)).trans hp) z⟩
    · rw [h8]
      have e := cn_up (p := fun x => decide (s (41 + x) = 1)) (q := fun x => decide (ag_ s c (41 + x) = 1)) hc2.1 24 (fun x x0 x1 xn => by
        show decide (ag_ s c (41 + x) = 1) = decide (s (41 + x) = 1)
        rw [ag_col hG hc x0 (by omega), if_neg (fun q => xn q.1)])
      rw [e, if_pos (by omega), ← d1]
      have e1 : decide (ag_ s c (41 + c) = 1) = true := by
        rw [ag_col hG hc hc2.1 hc2.2, if_pos ⟨rfl, h.2⟩]
        rfl
      have e2 : decide (s (41 + c) = 1) = false := by
        rw [h.2]
        rfl
      rw [e1, e2]
      rfl
    · rw [h8] at k1
      rw [h233 k k0 (by omega)]
      by_cases hk : k = s 8
      · rw [if_pos hk]
        refine ⟨hc2, ?_⟩
        rw [ag_col hG hc hc2.1 hc2.2, if_pos ⟨rfl, h.2⟩]
      · rw [if_neg hk]
        obtain ⟨q0, q1⟩ := d2 k k0 (by omega)
        refine ⟨q0, ?_⟩
        rw [ag_col hG hc q0.1 q0.2, if_neg (fun z => by omega)]
        exact q1
    · rw [h8] at k1
      rw [h233 j j0 (by omega), h233 k (by omega) (by omega), if_neg (by omega)]
      by_cases hk : k = s 8
      · rw [if_pos hk]
        intro z
        have q := (d2 j j0 (by omega)).2
        rw [z] at q
        omega
      · rw [if_neg hk]
        exact d3 j k j0 jk (by omega)
  · rw [ag_b h]
    exact hG
theorem ag_L (hL : iv_L s) (hG : iv_G s) (hc : c = -15 ∨ (0 ≤ c ∧ c < 24)) : iv_L (ag_ s c) := iv_L_k (ag_o hG hc (by omega) (by omega) (by omega)) (ag_o hG hc (by omega) (by omega) (by omega)) hL
theorem ag_C {t : Int} (hC : iv_C t s) (hG : iv_G s) (hc : c = -15 ∨ (0 ≤ c ∧ c < 24)) : iv_C t (ag_ s c) := iv_C_k (ag_o hG hc (by omega) (by omega) (by omega)) (ag_o hG hc (by omega) (by omega) (by omega)) (fun j a b => ag_o hG hc (by omega) (by omega) (by omega)) hC
theorem ft_or {x : Int} (h : ft_ s x) : x = -15 ∨ (0 ≤ x ∧ x < 24) := by
  rcases h with q | q
  · exact Or.inl q
  · exact Or.inr ⟨q.1, q.2.1⟩
theorem ag_iv {t : Int} (hp : s 0 = 1) (hI : iv_ t s) (hc : ft_ s c) : iv_ t (ag_ s c) := by
  obtain ⟨hT, hP, hH, hW, hM, hD, hG, hL, hC⟩ := hI
  have h := ft_or hc
  exact ⟨ag_T hT hG hc, ag_P hP hG h, ag_H hH hG h, ag_W hp hW hG h, ag_M hp hM hG h, ag_D hp hD hG h, ag_G hp hG h, ag_L hL hG h, ag_C hC hG h⟩
end AG
