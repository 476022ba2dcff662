/-! balance and means -/
section BA
variable {μ ν : mu_T} {s : Int → Int} {t : Int}
/-- what a round that marks must not have -/
abbrev pb_ (s : Int → Int) (k : Int) : Prop := s 0 = 1 ∧ bw_ s k
theorem l_ff (hI : iv_ t (ν 1)) {c : Int} (hc : 0 ≤ c ∧ c < 24) : ∀ (n : Nat) (i : Int), 0 ≤ i → i + n = 4 → ∀ f : Nat, n < f → f_X12_isFit_L16 c ν f 0 i = some 0 ∧ ((∀ k, i ≤ k → k < 4 → ¬ pb_ (ν 1) (c * 4 + k)) → f_X12_isFit_L16 c ν f 1 i = some 1) ∧ ((∃ k, i ≤ k ∧ k < 4 ∧ pb_ (ν 1) (c * 4 + k)) → f_X12_isFit_L16 c ν f 1 i = some 0) := by
  intro n
  induction n with
  | zero =>
    intro i i0 hi f hff
    obtain ⟨f', rfl⟩ : ∃ f', f = f' + 1 := ⟨f - 1, by omega⟩
    have e : ∀ b : Int, f_X12_isFit_L16 c ν (f' + 1) b i = ry_ b := fun b => by
      rw [f_X12_isFit_L16, lt_n (by omega) (by decide) (by omega)]
    rw [e, e]
    exact ⟨rfl, fun _ => rfl, fun ⟨k, a, b, _⟩ => by omega⟩
  | succ n ih =>
    intro i i0 hi f hff
    obtain ⟨f', rfl⟩ : ∃ f', f = f' + 1 := ⟨f - 1, by omega⟩
    obtain ⟨q0, q1, q2⟩ := ih (i + 1) (by omega) (by omega) f' (by omega)
    have hT := hI.1
    have hP := hI.2.1
    have w := hI.2.2.1 (c * 4 + i) (by omega) (by omega)
    have wr := (ft_r w).2
    have ei : (137 + (4 * c)) + i = 137 + (c * 4 + i) := by omega
    have ed : (c * 4 + i) / 4 = c := by omega
    have ev0 : f_X12_isFit_L16 c ν (f' + 1) 0 i = f_X12_isFit_L16 c ν f' 0 (i + 1) := by
      rw [f_X12_isFit_L16, lt_y (by omega) (by decide) (by omega), e_at, bd_some, rd_e (by omega) (by omega)]
      simp only [jn_e, nm_q]
      rw [eq_y rfl]
    have ev1 : f_X12_isFit_L16 c ν (f' + 1) 1 i = if pb_ (ν 1) (c * 4 + i) then f_X12_isFit_L16 c ν f' 0 (i + 1) else f_X12_isFit_L16 c ν f' 1 (i + 1) := by
      rw [f_X12_isFit_L16, lt_y (by omega) (by decide) (by omega), e_at, bd_some, rd_e (by omega) (by omega), ei]
      simp only [jn_e, nm_q]
      rw [eq_n (by decide) (by decide) (by decide), e_isThere hT w, bd_some, eq_n (by decide) (by decide) (by decide)]
      by_cases h1 : ν 1 (137 + (c * 4 + i)) = -15
      · rw [eq_y h1, if_neg (fun z => z.2.2.1 h1)]
      · have hb := ft_in w h1
        have g1 := hT c hc.1 hc.2
        have g2 := hT _ hb.1 hb.2
        rw [eq_n wr (by decide) h1, rd_e (by decide) (by decide)]
        by_cases h2 : ν 1 0 = 1
        · rw [eq_y h2, rd_e (by omega) (by omega)]
          by_cases h3 : ν 1 (41 + c) = 2
          · rw [eq_y h3, rd_e (by omega) (by omega)]
            by_cases h4 : ν 1 (41 + ν 1 (137 + (c * 4 + i))) = 0
            · rw [eq_y h4, if_pos ⟨h2, by rw [ed]; exact h3, h1, h4⟩]
            · rw [eq_n (by omega) (by decide) h4, if_neg (fun z => h4 z.2.2.2)]
          · rw [eq_n (by omega) (by decide) h3, if_neg (fun z => h3 (by have := z.2.1; rw [ed] at this; exact this))]
        · rw [eq_n (by have := hP.1; omega) (by decide) h2, if_neg (fun z => h2 z.1)]
    rw [ev0, ev1]
    refine ⟨q0, fun h => ?_, fun ⟨k, a, b, d⟩ => ?_⟩
    · rw [if_neg (h i (by omega) (by omega))]
      exact q1 (fun k a b => h k (by omega) b)
    · by_cases hb : pb_ (ν 1) (c * 4 + i)
      · rw [if_pos hb]
        exact q0
      · rw [if_neg hb]
        refine q2 ⟨k, ?_, b, d⟩
        by_cases hk : k = i
        · rw [hk] at d
          exact absurd d hb
        · omega
theorem e_isFit (hI : iv_ t (ν 1)) {c : Int} (hc : 0 ≤ c ∧ c < 24) : ((∀ k, 0 ≤ k → k < 4 → ¬ pb_ (ν 1) (c * 4 + k)) → f_X12_isFit ν c = some 1) ∧ ((∃ k, 0 ≤ k ∧ k < 4 ∧ pb_ (ν 1) (c * 4 + k)) → f_X12_isFit ν c = some 0) := by
  obtain ⟨F, hF, hF2⟩ := F_big
  unfold f_X12_isFit
  rw [← hF2, rd_e (by omega) (by omega), e_isThere hI.1 (hI.2.2.2.1 c hc.1 hc.2).1, bd_some]
  obtain ⟨q0, q1, q2⟩ := l_ff hI hc 4 0 (by decide) (by decide) F (by omega)
  exact ⟨q1, q2⟩
theorem l_b28 (hI : iv_ t (ν 1)) {J : Int → Option Int} : ∀ (n : Nat) (i : Int), 0 ≤ i → i + n = 24 → ∀ f : Nat, n < f → f_X12_isBalanced_L28 J ν f 0 i = J 0 ∧ ((∀ k, 4 * i ≤ k → k < 96 → ¬ pb_ (ν 1) k) → f_X12_isBalanced_L28 J ν f 1 i = J 1) ∧ ((∃ k, 4 * i ≤ k ∧ k < 96 ∧ pb_ (ν 1) k) → f_X12_isBalanced_L28 J ν f 1 i = J 0) := by
  intro n
  induction n with
  | zero =>
    intro i i0 hi f hff
    obtain ⟨f', rfl⟩ : ∃ f', f = f' + 1 := ⟨f - 1, by omega⟩
    have e : ∀ b : Int, f_X12_isBalanced_L28 J ν (f' + 1) b i = J b := fun b => by
      rw [f_X12_isBalanced_L28, lt_n (by omega) (by decide) (by omega)]
    rw [e, e]
    exact ⟨rfl, fun _ => rfl, fun ⟨k, a, b, _⟩ => by omega⟩
  | succ n ih =>
    intro i i0 hi f hff
    obtain ⟨f', rfl⟩ : ∃ f', f = f' + 1 := ⟨f - 1, by omega⟩
    obtain ⟨q0, q1, q2⟩ := ih (i + 1) (by omega) (by omega) f' (by omega)
    obtain ⟨z1, z2⟩ := e_isFit hI (c := i) ⟨i0, by omega⟩
    have ev0 : f_X12_isBalanced_L28 J ν (f' + 1) 0 i = f_X12_isBalanced_L28 J ν f' 0 (i + 1) := by
      rw [f_X12_isBalanced_L28, lt_y (by omega) (by decide) (by omega)]
      simp only [jn_e, nm_q]
      rw [eq_y rfl]
    have ev1 : ∀ r : Int, f_X12_isFit ν i = some r → f_X12_isBalanced_L28 J ν (f' + 1) 1 i = eq_ r 0 (f_X12_isBalanced_L28 J ν f' 0 (i + 1)) (f_X12_isBalanced_L28 J ν f' 1 (i + 1)) := fun r hr => by
      rw [f_X12_isBalanced_L28, lt_y (by omega) (by decide) (by omega)]
      simp only [jn_e, nm_q]
      rw [eq_n (by decide) (by decide) (by decide), hr, bd_some]
    rw [ev0]
    refine ⟨q0, fun h => ?_, fun ⟨k, a, b, d⟩ => ?_⟩
    · rw [ev1 1 (z1 (fun k a b => h _ (by omega) (by omega))), eq_n (by decide) (by decide) (by decide)]
      exact q1 (fun k a b => h k (by omega) b)
    · by_cases hb : ∃ k, 0 ≤ k ∧ k < 4 ∧ pb_ (ν 1) (i * 4 + k)
      · rw [ev1 0 (z2 hb), eq_y rfl]
        exact q0
      · have hb' : ∀ k, 0 ≤ k → k < 4 → ¬ pb_ (ν 1) (i * 4 + k) := fun k a b d => hb ⟨k, a, b, d⟩
        rw [ev1 1 (z1 hb'), eq_n (by decide) (by decide) (by decide)]
        refine q2 ⟨k, ?_, b, d⟩
        by_cases hk : k < 4 * (i + 1)
        · exfalso
          refine hb' (k - i * 4) (by omega) (by omega) ?_
          rw [show i * 4 + (k - i * 4) = k by omega]
          exact d
        · omega
theorem l_b60 (hI : iv_ t (ν 1)) {J : Int → Option Int} {b : Int} (hb : b = 0 ∨ b = 1) : ∀ (n : Nat) (i : Int), 0 ≤ i → i + n = 6 → ∀ f : Nat, n < f → f_X12_isBalanced_L60 J ν f b i = J b := by
  intro n
  induction n with
  | zero =>
    intro i i0 hi f hff
    obtain ⟨f', rfl⟩ : ∃ f', f = f' + 1 := ⟨f - 1, by omega⟩
    rw [f_X12_isBalanced_L60, lt_n (by omega) (by decide) (by omega)]
  | succ n ih =>
    intro i i0 hi f hff
    obtain ⟨f', rfl⟩ : ∃ f', f = f' + 1 := ⟨f - 1, by omega⟩
    have q := ih (i + 1) (by omega) (by omega) f' (by omega)
    rw [f_X12_isBalanced_L60, lt_y (by omega) (by decide) (by omega)]
    simp only [jn_e, nm_q]
    rcases hb with rfl | rfl
    · rw [eq_y rfl]
      exact q
    · rw [eq_n (by decide) (by decide) (by decide), rd_e (by omega) (by omega), e_isThere hI.1 (hI.2.2.2.2.1 i i0 (by omega)).1, bd_some, eq_n (by decide) (by decide) (by decide)]
      exact q
theorem p_isBalanced : pf_isBalanced RR_ := fun t μ ν _ hR => by
  have hS := RR_skip t μ ν hR
  obtain ⟨hr, hI⟩ : hr_ μ (ν 1) ∧ iv_ (60 * ((t + 1 : Nat) : Int)) (ν 1) := hS.1
  obtain ⟨r1, r2, r3, r4, r5, r6, r7, ⟨r8, r9⟩, ⟨r10, r11⟩, r12, r13, r14, r15, r16, r17, r18, r19⟩ := hr
  obtain ⟨F, hF, hF2⟩ := F_big
  have hC := hI.2.2.2.2.2.2.2.2.1
  have hP := hI.2.1.1
  have e3 : ν 1 3 = nu_ (ν 1) + ν 1 4 := hC
  have h0 : ∀ r : Int, f_X2_isSound μ = some r → (r = 0 ∨ r = 1) → f_X11_isBalanced μ = some r := fun r h h01 => by
    unfold f_X11_isBalanced
    rw [h, bd_some]
    rcases h01 with rfl | rfl
    · rw [eq_y rfl]
    · rw [eq_n (by decide) (by decide) (by decide)]
  have eS : f_X2_isSound μ = eq_ (ν 1 0) 1 (bd_ (f_X2_hasBlackToWhite μ) (fun v58 => eq_ v58 0 (some 1) (some 0))) (some 1) := by
    unfold f_X2_isSound
    rw [nm_q, r15, e_urns hI.1 r4, bd_some, nm_q, r16, eq_y e3, l_au1 hI.1 r4 r1 hI.2.2.1, bd_some, eq_n (by decide) (by decide) (by decide), l_au2 hI.1 r4 r2 (fun c a b => (hI.2.2.2.1 c a b).1), bd_some, eq_n (by decide) (by decide) (by decide), l_au6 hI.1 r4 r6 (fun c a b => (hI.2.2.2.2.1 c a b).1), bd_some, eq_n (by decide) (by decide) (by decide), nm_q, r12]
  have eB : f_X2_hasBlackToWhite μ = f_X2_hasBlackToWhite_L2 μ F 0 := by
    unfold f_X2_hasBlackToWhite
    rw [← hF2]
  obtain ⟨y1, y2⟩ := l_hb hI.1 r4 r1 hI.2.2.1 96 0 (by decide) (by decide) F (by omega)
  obtain ⟨x0, x1, x2⟩ := l_b28 hI (J := fun x1_58 => f_X12_isBalanced_L60 (fun x1_98 => eq_ x1_98 0 (some 0) (some 1)) ν F x1_58 0) 24 0 (by decide) (by decide) F (by omega)
  have eM : f_X12_isBalanced ν = f_X12_isBalanced_L28 (fun x1_58 => f_X12_isBalanced_L60 (fun x1_98 => eq_ x1_98 0 (some 0) (some 1)) ν F x1_58 0) ν F 1 0 := by
    unfold f_X12_isBalanced
    rw [← hF2, rd_e (by decide) (by decide), e_many hI.1, bd_some, rd_e (by decide) (by decide)]
    simp only [jn_e]
    rw [eq_y e3]
  have fin : ∀ b : Int, (b = 0 ∨ b = 1) → f_X12_isBalanced_L60 (fun x1_98 => eq_ x1_98 0 (some 0) (some 1)) ν F b 0 = some b := fun b hb => by
    rw [l_b60 hI hb 6 0 (by decide) (by decide) F (by omega)]
    rcases hb with rfl | rfl
    · rw [eq_y rfl]
    · rw [eq_n (by decide) (by decide) (by decide)]
  by_cases hB : ∃ k, 4 * 0 ≤ k ∧ k < 96 ∧ pb_ (ν 1) k
  · obtain ⟨k, k0, k1, k2⟩ := id hB
    refine ⟨0, h0 0 ?_ (Or.inl rfl), ?_, hS⟩
    · rw [eS, eq_y k2.1, eB, y2 ⟨k, by omega, k1, k2.2⟩, bd_some, eq_n (by decide) (by decide) (by decide)]
    · rw [eM, x2 hB]
      exact fin 0 (Or.inl rfl)
  · refine ⟨1, h0 1 ?_ (Or.inr rfl), ?_, hS⟩
    · rw [eS]
      by_cases hp : ν 1 0 = 1
      · rw [eq_y hp, eB, y1 (fun k a b z => hB ⟨k, by omega, b, hp, z⟩), bd_some, eq_y rfl]
      · rw [eq_n (by omega) (by decide) hp]
    · rw [eM, x1 (fun k a b z => hB ⟨k, a, b, z⟩)]
      exact fin 1 (Or.inr rfl)
-- sums
def sm_ (g : Int → Int) : Nat → Int
  | 0 => 0
  | n + 1 => sm_ g n + g n
theorem sm_s {g : Int → Int} {n : Nat} : sm_ g (n + 1) = sm_ g n + g n := rfl
theorem sm_add {g h : Int → Int} : ∀ n : Nat, sm_ (fun c => g c + h c) n = sm_ g n + sm_ h n
  | 0 => rfl
  | n + 1 => by
    rw [sm_s, sm_s, sm_s, sm_add n]
    omega
theorem sm_le {g h : Int → Int} : ∀ n : Nat, (∀ c : Int, 0 ≤ c → c < n → g c ≤ h c) → sm_ g n ≤ sm_ h n
  | 0, _ => Int.le_refl _
  | n + 1, w => by
    have q := sm_le n (fun c a b => w c a (by omega))
    have q2 := w n (by omega) (by omega)
    rw [sm_s, sm_s]
    omega
theorem sm_0 {g : Int → Int} : ∀ n : Nat, (∀ c : Int, 0 ≤ c → c < n → 0 ≤ g c) → 0 ≤ sm_ g n
  | 0, _ => Int.le_refl _
  | n + 1, w => by
    have q := sm_0 n (fun c a b => w c a (by omega))
    have q2 := w n (by omega) (by omega)
    rw [sm_s]
    omega
theorem sm_one {x : Int} : ∀ n : Nat, sm_ (fun c => if decide (x = c) = true then 1 else 0) n = if 0 ≤ x ∧ x < n then 1 else 0
  | 0 => by
    rw [if_neg (by omega)]
    rfl
  | n + 1 => by
    rw [sm_s, sm_one n]
    by_cases h : x = n
    · rw [if_neg (by omega), if_pos (decide_eq_true h), if_pos (by omega)]
      rfl
    · rw [if_neg (show ¬ decide (x = (n : Int)) = true by rw [decide_eq_false h]; decide)]
      by_cases h2 : 0 ≤ x ∧ x < n
      · rw [if_pos h2, if_pos (by omega)]
        rfl
      · rw [if_neg h2, if_neg (by omega)]
        rfl
theorem sm_cn {h : Int → Int} (n : Nat) : ∀ M : Nat, sm_ (fun c => cn_ (fun k => decide (h k = c)) M) n ≤ M
  | 0 => by
    have e : ∀ n : Nat, sm_ (fun c => cn_ (fun k => decide (h k = c)) 0) n = 0 := by
      intro n
      induction n with
      | zero => rfl
      | succ n ih =>
        rw [sm_s, ih]
        rfl
    rw [e]
    exact Int.le_refl _
  | M + 1 => by
    have q := sm_cn (h := h) n M
    have e : sm_ (fun c => cn_ (fun k => decide (h k = c)) (M + 1)) n = sm_ (fun c => cn_ (fun k => decide (h k = c)) M) n + sm_ (fun c => if decide (h M = c) = true then 1 else 0) n := sm_add n
    rw [e, sm_one]
    split <;> omega
/-- the sum of what holds the urns -/
def sh_2 (s : Int → Int) : Int := sm_ (fun c => if s (17 + c) = 1 then hd_ s c else 0) 24
theorem hd_0 {a : Int} : 0 ≤ hd_ s a := by
  unfold hd_
  have := cn_0 (fun k => decide (s (137 + k) = a)) 96
  have := cn_0 (fun k => decide (s (11 + k) = a)) 6
  omega
theorem sh_b : 0 ≤ sh_2 s ∧ sh_2 s ≤ 102 := by
  unfold sh_2
  refine ⟨sm_0 24 (fun c a b => ?_), ?_⟩
  · split
    · exact hd_0
    · exact Int.le_refl _
  · have q1 := sm_cn (h := fun k => s (137 + k)) 24 96
    have q2 := sm_cn (h := fun k => s (11 + k)) 24 6
    have q3 := sm_le (g := fun c => if s (17 + c) = 1 then hd_ s c else 0) (h := fun c => hd_ s c) 24 (fun c a b => by
      show (if _ then _ else _) ≤ _
      split
      · exact Int.le_refl _
      · exact hd_0)
    have q4 : sm_ (fun c => hd_ s c) 24 = sm_ (fun c => cn_ (fun k => decide (s (137 + k) = c)) 96) 24 + sm_ (fun c => cn_ (fun k => decide (s (11 + k) = c)) 6) 24 := sm_add 24
    omega
theorem l_all (hT : iv_T s) (hh : ∀ c, 0 ≤ c → c < 24 → μ 4 c = if s (17 + c) = 0 then -1 else s (41 + c)) (hr1 : ∀ k, 0 ≤ k → k < 96 → μ 1 k = s (137 + k)) (hg : ∀ k, 0 ≤ k → k < 96 → rg_ (s (137 + k))) (hr6 : ∀ k, 0 ≤ k → k < 6 → μ 6 k = s (11 + k)) (hn : ∀ k, 0 ≤ k → k < 6 → rg_ (s (11 + k))) : ∀ (n i : Nat), i + n = 24 → ∀ f : Nat, n < f → f_X2_holdersOfAll_L4 μ f (sm_ (fun c => if s (17 + c) = 1 then hd_ s c else 0) i) i = some (sh_2 s) := by
  intro n
  induction n with
  | zero =>
    intro i hi f hf
    obtain ⟨f', rfl⟩ : ∃ f', f = f' + 1 := ⟨f - 1, by omega⟩
    have e : i = 24 := by omega
    subst e
    rw [f_X2_holdersOfAll_L4, lt_n (by decide) (by decide) (by decide)]
    rfl
  | succ n ih =>
    intro i hi f hf
    obtain ⟨f', rfl⟩ : ∃ f', f = f' + 1 := ⟨f - 1, by omega⟩
    have q := ih (i + 1) (by omega) f' (by omega)
    rw [sm_s] at q
    rw [f_X2_holdersOfAll_L4, lt_y (by omega) (by decide) (by omega), e_hasUrn hT hh (by omega), bd_some, jn_e, tr_0]
    by_cases h : s (17 + (i : Int)) = 1
    · rw [if_pos h] at q
      rw [if_pos ⟨⟨by omega, by omega⟩, h⟩, e_holdersOf hr1 hg hr6 hn (by omega), bd_some]
      exact q
    · rw [if_neg h, Int.add_zero] at q
      rw [if_neg (fun z => h z.2)]
      exact q
theorem l_mh (hT : iv_T (ν 1)) (hg : ∀ k, 0 ≤ k → k < 96 → rg_ (ν 1 (137 + k))) (hn : ∀ k, 0 ≤ k → k < 6 → rg_ (ν 1 (11 + k))) {J : Int → Option UInt64} : ∀ (n i : Nat), i + n = 24 → ∀ f : Nat, n < f → f_X12_meanHeld_L9 J ν f (sm_ (fun c => if ν 1 (17 + c) = 1 then hd_ (ν 1) c else 0) i) i = J (sh_2 (ν 1)) := by
  intro n
  induction n with
  | zero =>
    intro i hi f hf
    obtain ⟨f', rfl⟩ : ∃ f', f = f' + 1 := ⟨f - 1, by omega⟩
    have e : i = 24 := by omega
    subst e
    rw [f_X12_meanHeld_L9, lt_n (by decide) (by decide) (by decide)]
    rfl
  | succ n ih =>
    intro i hi f hf
    obtain ⟨f', rfl⟩ : ∃ f', f = f' + 1 := ⟨f - 1, by omega⟩
    have q := ih (i + 1) (by omega) f' (by omega)
    have w := hT i (by omega) (by omega)
    rw [sm_s] at q
    rw [f_X12_meanHeld_L9, lt_y (by omega) (by decide) (by omega), rd_e (by omega) (by omega), jn_e]
    by_cases h : ν 1 (17 + (i : Int)) = 1
    · rw [if_pos h] at q
      rw [eq_y h, e_held hg hn (by omega), bd_some]
      exact q
    · rw [if_neg h] at q
      rw [eq_n (by omega) (by decide) h]
      exact q
set_option maxRecDepth 100000 in
theorem fp_d : ∀ a : Nat, a < 103 → ∀ b : Nat, b < 25 → 0 < b → (FP.ddiv (FP.i2d (iI (a : Int))) (FP.i2d (iI (b : Int))) &&& 0x7fffffffffffffff ≤ 0x7ff0000000000000) ∧ Op.cmpValue (FP.dcmp (FP.ddiv (FP.i2d (iI (a : Int))) (FP.i2d (iI (b : Int)))) (FP.ddiv (FP.i2d (iI (a : Int))) (FP.i2d (iI (b : Int))))) .l = iI 0 := by decide +kernel
theorem nu_b : 0 ≤ nu_ s ∧ nu_ s ≤ 24 := ⟨cn_0 _ _, cn_le _ _⟩
theorem p_meanHeld : pf_meanHeld RR_ := fun t μ ν _ hR => by
  have hS := RR_skip t μ ν hR
  obtain ⟨hr, hI⟩ : hr_ μ (ν 1) ∧ iv_ (60 * ((t + 1 : Nat) : Int)) (ν 1) := hS.1
  obtain ⟨r1, r2, r3, r4, r5, r6, r7, ⟨r8, r9⟩, ⟨r10, r11⟩, r12, r13, r14, r15, r16, r17, r18, r19⟩ := hr
  obtain ⟨F, hF, hF2⟩ := F_big
  have hb := nu_b (s := ν 1)
  have hs := sh_b (s := ν 1)
  have eA : f_X2_holdersOfAll μ = some (sh_2 (ν 1)) := by
    unfold f_X2_holdersOfAll
    rw [← hF2]
    exact l_all hI.1 r4 r1 (iv_g1 hI) r6 (iv_g6 hI) 24 0 (by decide) F (by omega)
  unfold f_X11_meanHeld f_X12_meanHeld
  rw [← hF2, e_urns hI.1 r4, bd_some, e_many hI.1, bd_some, jn_e]
  have q := l_mh hI.1 (iv_g1 hI) (iv_g6 hI) (J := fun x2_46 => eq_ (nu_ (ν 1)) 0 (some (FP.dconst0)) (dd_ (FP.i2d (iI x2_46)) (FP.i2d (iI (nu_ (ν 1)))) (fun v58 => some v58))) 24 0 (by decide) F (by omega)
  by_cases h0 : nu_ (ν 1) = 0
  · refine ⟨FP.dconst0, by rw [eq_y h0], q.trans (by rw [eq_y h0]), hS, by decide +kernel⟩
  · obtain ⟨f1, f2⟩ := fp_d (sh_2 (ν 1)).toNat (by omega) (nu_ (ν 1)).toNat (by omega) (by omega)
    rw [Int.toNat_of_nonneg hs.1, Int.toNat_of_nonneg hb.1] at f1 f2
    refine ⟨FP.ddiv (FP.i2d (iI (sh_2 (ν 1)))) (FP.i2d (iI (nu_ (ν 1)))), ?_, q.trans ?_, hS, f2⟩
    · rw [eq_n (by omega) (by decide) h0, eA, bd_some]
      unfold dd_
      rw [if_pos f1]
    · rw [eq_n (by omega) (by decide) h0]
      unfold dd_
      rw [if_pos f1]
end BA
