/-! greys: an urn is made grey -/
theorem um_um {μ : mu_T} {k : Nat} {f g : Int → Int} : um_ (um_ μ k f) k g = um_ μ k g := by
  funext q
  unfold um_
  by_cases h : q = k
  · rw [if_pos h, if_pos h]
  · rw [if_neg h, if_neg h, if_neg h]
theorem st_um {μ : mu_T} {k : Nat} {f : Int → Int} {i v : Int} : st_ (um_ μ k f) k i v = um_ μ k (ur_ f i v) := by
  unfold st_
  rw [um_self, um_um]
theorem um_id {μ : mu_T} {k : Nat} : um_ μ k (μ k) = μ := by
  funext q
  unfold um_
  by_cases h : q = k
  · rw [if_pos h, h]
  · rw [if_neg h]
theorem ur_y {f : Int → Int} {i v : Int} : ur_ f i v i = v := if_pos rfl
theorem ur_n {f : Int → Int} {i v j : Int} (h : j ≠ i) : ur_ f i v j = f j := if_neg h
/-- the row behind 'make it grey if it is white' -/
def ag_ (s : Int → Int) (c : Int) : Int → Int := if c ≠ -15 ∧ s (41 + c) = 0 then ur_ (ur_ (ur_ s (41 + c) 1) (233 + s 8) c) 8 (s 8 + 1) else s
section RG
variable {s : Int → Int} {μ ν : mu_T}
theorem e_greysIfWhite {c : Int} (hc : c = -15 ∨ (0 ≤ c ∧ c < 24)) (hT : iv_T (ν 1)) (h8 : 0 ≤ ν 1 8 ∧ ν 1 8 ≤ 24) : f_X12_greysIfWhite ν c = some (um_ ν 1 (ag_ (ν 1) c)) := by
  unfold f_X12_greysIfWhite ag_
  by_cases h0 : c = -15
  · rw [eq_y h0, if_neg (fun q => q.1 h0), um_id]
  · have h1 : 0 ≤ c ∧ c < 24 := by omega
    have q := (hT c h1.1 h1.2).2.1
    rw [eq_n (by omega) (by decide) h0, rd_e (by omega) (by omega)]
    by_cases h2 : ν 1 (41 + c) = 0
    · rw [eq_y h2, if_pos ⟨h0, h2⟩]
      unfold f_X12_greys
      have e8 : (st_ ν 1 (41 + c) 1) 1 8 = ν 1 8 := by rw [st_s, if_neg (by omega)]
      have e8b : (st_ (st_ ν 1 (41 + c) 1) 1 (233 + ν 1 8) c) 1 8 = ν 1 8 := by rw [st_s, if_neg (by omega), e8]
      rw [wr_e (by omega) (by omega), rd_e (by omega) (by omega), e8, wr_e (by omega) (by omega), rd_e (by omega) (by omega), e8b, wr_e (by omega) (by omega), bd_some]
      congr 1
      show st_ (st_ (um_ ν 1 _) 1 _ _) 1 _ _ = _
      rw [st_um, st_um]
    · rw [eq_n (by omega) (by decide) h2, if_neg (fun z => h2 z.2), um_id]
theorem c_makeGrey {c : Int} (hr : hr_ μ s) (hT : iv_T s) (hc : ft_ s c) (h8 : s 8 = cn_ (fun c => decide (s (41 + c) = 1)) 24 ∧ 0 ≤ s 8) : ∃ μ1, f_X2_makeGrey μ c = some μ1 ∧ hr_ μ1 (ag_ s c) ∧ ∀ k, 12 ≤ k → μ1 k = μ k := by
  obtain ⟨r1, r2, r3, r4, r5, r6, r7, ⟨r8, r9⟩, ⟨r10, r11⟩, r12, r13, r14, r15, r16, r17, r18, r19⟩ := hr
  have hcr : rg_ c := by rcases hc with h | h <;> omega
  unfold f_X2_makeGrey ag_
  rw [e_isWhite hT r4 hcr, bd_some, tr_0]
  by_cases h : ur9_ s c ∧ s (41 + c) = 0
  · obtain ⟨⟨⟨h0, h1⟩, h2⟩, h3⟩ := h
    have h24 : s 8 < 24 := by
      rw [h8.1]
      exact cn_lt h0 24 (by omega) (by rw [h3]; rfl)
    rw [if_pos ⟨⟨⟨h0, h1⟩, h2⟩, h3⟩, wr_e h0 (by omega)]
    unfold f_X9_addLast
    have e8 : (st_ μ 4 c 1) 8 1 = s 8 := by rw [st_n (by decide), r8]
    rw [nm_q, e8, lt_y (by omega) (by decide) h24, nm_q, wr_e (by omega) (by omega), nm_q, wf_e, bd_some, if_pos ⟨by omega, h3⟩]
    have e8b : (st_ (st_ μ 4 c 1) 9 (s 8) c) 8 1 = s 8 := by rw [st_n (by decide), e8]
    rw [e8b]
    refine ⟨_, rfl, ⟨fun k k0 k1 => ?_, fun k k0 k1 => ?_, fun k k0 k1 => ?_, fun k k0 k1 => ?_, fun k k0 k1 kt => ?_, fun k k0 k1 => ?_, fun k k0 k1 => ?_, ⟨?_, fun k k0 k1 => ?_⟩, ⟨?_, fun k k0 k1 => ?_⟩, ?_, ?_, ?_, ?_, ?_, ?_, ?_, ?_⟩, fun k k0 => ?_⟩
    · show μ 1 k = _
      have q := r1 k k0 k1
      simp only [ur_]
      omega
    · show μ 2 k = _
      have q := r2 k k0 k1
      simp only [ur_]
      omega
    · show μ 3 k = _
      have q := r3 k k0 k1
      simp only [ur_]
      omega
    · show ur_ (μ 4) c 1 k = _
      have q := r4 k k0 k1
      by_cases hk : k = c
      · subst hk
        simp only [ur_, if_true]
        omega
      · simp only [ur_]
        omega
    · show μ 5 k = _
      have q := r5 k k0 k1
      simp only [ur_] at kt ⊢
      omega
    · show μ 6 k = _
      have q := r6 k k0 k1
      simp only [ur_]
      omega
    · have q := r7 k k0
      show μ 7 _ = _
      simp only [ur_] at k1 ⊢
      rw [if_neg (show ¬ (4 : Int) = 8 by omega), if_neg (show ¬ (4 : Int) = 233 + s 8 by omega), if_neg (show ¬ (4 : Int) = 41 + c by omega)]
      omega
    · rw [st_s, if_pos rfl, ur_y]
    · have q := r9 k k0
      show ur_ (μ 9) (s 8) c k = _
      by_cases hk : k = s 8
      · subst hk
        simp only [ur_, if_true] at k1 ⊢
        omega
      · simp only [ur_] at k1 ⊢
        omega
    · show μ 10 1 = _
      simp only [ur_]
      omega
    · have q := r11 k k0
      show μ 11 k = _
      simp only [ur_] at k1 ⊢
      omega
    · show μ 0 9 = _
      simp only [ur_]
      omega
    · show μ 0 10 = _
      simp only [ur_]
      omega
    · show μ 0 11 = _
      simp only [ur_]
      omega
    · show μ 0 12 = _
      simp only [ur_]
      omega
    · show μ 0 13 = _
      simp only [ur_]
      omega
    · show μ 0 14 = _
      simp only [ur_]
      omega
    · show μ 0 15 = _
      simp only [ur_]
      omega
    · show μ 0 16 = _
      simp only [ur_]
      omega
    · rw [st_n (by omega), st_n (by omega), st_n (by omega)]
  · rw [if_neg h]
    refine ⟨μ, rfl, ?_, fun _ _ => rfl⟩
    rw [if_neg (fun q => h (by rcases hc with z | z; exact absurd z q.1; exact ⟨⟨⟨z.1, z.2.1⟩, z.2.2⟩, q.2⟩))]
    exact ⟨r1, r2, r3, r4, r5, r6, r7, ⟨r8, r9⟩, ⟨r10, r11⟩, r12, r13, r14, r15, r16, r17, r18, r19⟩
-- what a row may change and keep what holds of it
theorem iv_T_k {s s' : Int → Int} (h : ∀ j, 17 ≤ j → j < 89 → s' j = s j) (hT : iv_T s) : iv_T s' := fun c c0 c1 => by
  rw [h (17 + c) (by omega) (by omega), h (41 + c) (by omega) (by omega), h (65 + c) (by omega) (by omega)]
  exact hT c c0 c1
theorem iv_P_k {s s' : Int → Int} (h : s' 0 = s 0 ∧ s' 1 = s 1) (hP : iv_P s) : iv_P s' := by
  unfold iv_P
  rw [h.1, h.2]
  exact hP
theorem ft_k {s s' : Int → Int} (h : ∀ j, 17 ≤ j → j < 41 → s' j = s j) {x : Int} (hx : ft_ s x) : ft_ s' x := by
  rcases hx with q | ⟨q0, q1, q2⟩
  · exact Or.inl q
  · exact Or.inr ⟨q0, q1, by rw [h _ (by omega) (by omega)]; exact q2⟩
theorem sf_k {s s' : Int → Int} (h : s' 0 = s 0 ∧ s' 1 = s 1) {x : Int} (hx : s' (41 + x) = s (41 + x)) (hs : sf_ s x) : sf_ s' x := by
  unfold sf_
  rw [h.1, h.2, hx]
  exact hs
theorem iv_H_k {s s' : Int → Int} (h : ∀ j, 17 ≤ j → j < 41 → s' j = s j) (h2 : ∀ k, 0 ≤ k → k < 96 → s' (137 + k) = s (137 + k) ∨ ft_ s (s' (137 + k))) (hH : iv_H s) : iv_H s' := fun k k0 k1 => by
  rcases h2 k k0 k1 with q | q
  · rw [q]
    exact ft_k h (hH k k0 k1)
  · exact ft_k h q
theorem ft_in {s : Int → Int} {x : Int} (h : ft_ s x) (hx : x ≠ -15) : 0 ≤ x ∧ x < 24 := by
  rcases h with q | q
  · exact absurd q hx
  · exact ⟨q.1, q.2.1⟩
theorem iv_W_k {s s' : Int → Int} (h0 : s' 0 = s 0 ∧ s' 1 = s 1) (h : ∀ j, 17 ≤ j → j < 65 → s' j = s j) (h2 : ∀ c, 0 ≤ c → c < 24 → s' (113 + c) = s (113 + c) ∨ (ft_ s (s' (113 + c)) ∧ (s 0 = 2 → s' (113 + c) ≠ -15 → ¬ (s (41 + s' (113 + c)) = 0 ∧ s 1 ≤ s' (113 + c))))) (hW : iv_W s) : iv_W s' := fun c c0 c1 => by
  have key : ft_ s (s' (113 + c)) ∧ (s 0 = 2 → s' (113 + c) ≠ -15 → ¬ (s (41 + s' (113 + c)) = 0 ∧ s 1 ≤ s' (113 + c))) := by
    rcases h2 c c0 c1 with q | q
    · rw [q]
      exact hW c c0 c1
    · exact q
  refine ⟨ft_k (fun j a b => h j a (by omega)) key.1, fun q1 q2 => ?_⟩
  have hb := ft_in key.1 q2
  rw [h0.1] at q1
  rw [h0.2, h _ (by omega) (by omega)]
  exact key.2 q1 q2
theorem iv_M_k {s s' : Int → Int} (h0 : s' 0 = s 0 ∧ s' 1 = s 1) (h : ∀ j, 17 ≤ j → j < 65 → s' j = s j) (h2 : ∀ k, 0 ≤ k → k < 6 → s' (11 + k) = s (11 + k) ∨ (ft_ s (s' (11 + k)) ∧ (s' (11 + k) ≠ -15 → sf_ s (s' (11 + k))))) (hM : iv_M s) : iv_M s' := fun k k0 k1 => by
  have key : ft_ s (s' (11 + k)) ∧ (s' (11 + k) ≠ -15 → sf_ s (s' (11 + k))) := by
    rcases h2 k k0 k1 with q | q
    · rw [q]
      exact hM k k0 k1
    · exact q
  refine ⟨ft_k (fun j a b => h j a (by omega)) key.1, fun q => ?_⟩
  have hb := ft_in key.1 q
  exact sf_k h0 (h _ (by omega) (by omega)) (key.2 q)
theorem iv_D_k {s s' : Int → Int} (h0 : s' 0 = s 0 ∧ s' 1 = s 1) (h9 : s' 9 = s 9) (h : ∀ j, 41 ≤ j → j < 89 → s' j = s j) (h2 : ∀ k, 0 ≤ k → k < s 9 → s' (257 + k) = s (257 + k)) (hD : iv_D s) : iv_D s' := by
  obtain ⟨⟨d0, d1⟩, d2, d3, d4⟩ := hD
  refine ⟨⟨by rw [h9]; exact d0, ?_⟩, fun k k0 k1 => ?_, fun j k j0 jk k1 => ?_, fun c c0 c1 hc => ?_⟩
  · rw [h9, d1]
    exact cn_eq 24 (fun c c0 c1 => by rw [h _ (by omega) (by omega)])
  · rw [h9] at k1
    obtain ⟨q0, q1, q2⟩ := d2 k k0 k1
    rw [h2 k k0 k1]
    exact ⟨q0, by rw [h _ (by omega) (by omega)]; exact q1, sf_k h0 (h _ (by omega) (by omega)) q2⟩
  · rw [h9] at k1
    rw [h2 j j0 (by omega), h2 k (by omega) k1]
    exact d3 j k j0 jk k1
  · rw [h _ (by omega) (by omega)] at hc
    obtain ⟨k, k0, k1, k2⟩ := d4 c c0 c1 hc
    exact ⟨k, k0, by rw [h9]; exact k1, by rw [h2 k k0 k1]; exact k2⟩
theorem iv_G_k {s s' : Int → Int} (h0 : s' 0 = s 0) (h8 : s' 8 = s 8) (h : ∀ j, 41 ≤ j → j < 65 → s' j = s j) (h2 : ∀ k, 0 ≤ k → k < s 8 → s' (233 + k) = s (233 + k)) (hG : iv_G s) : iv_G s' := by
  obtain ⟨⟨d0, d1⟩, d2, d3, d4⟩ := hG
  refine ⟨⟨by rw [h8]; exact d0, ?_⟩, fun k k0 k1 => ?_, fun j k j0 jk k1 => ?_, fun hc => ?_⟩
  · rw [h8, d1]
    exact cn_eq 24 (fun c c0 c1 => by rw [h _ (by omega) (by omega)])
  · rw [h8] at k1
    obtain ⟨q0, q1⟩ := d2 k k0 k1
    rw [h2 k k0 k1]
    exact ⟨q0, by rw [h _ (by omega) (by omega)]; exact q1⟩
  · rw [h8] at k1
    rw [h2 j j0 (by omega), h2 k (by omega) k1]
    exact d3 j k j0 jk k1
  · rw [h0] at hc
    rw [h8]
    exact d4 hc
theorem iv_L_k {s s' : Int → Int} (h4 : s' 4 = s 4) (h10 : s' 10 = s 10) (hL : iv_L s) : iv_L s' := by
  unfold iv_L
  rw [h4, h10]
  exact hL
theorem iv_C_k {t : Int} {s s' : Int → Int} (h3 : s' 3 = s 3) (h4 : s' 4 = s 4) (h : ∀ j, 17 ≤ j → j < 41 → s' j = s j) (hC : iv_C t s) : iv_C t s' := by
  refine ⟨?_, by rw [h3]; exact hC.2⟩
  rw [h3, h4, hC.1]
  congr 1
  exact cn_eq 24 (fun c c0 c1 => by rw [h _ (by omega) (by omega)])
end RG
