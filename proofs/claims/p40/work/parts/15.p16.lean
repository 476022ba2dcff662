/-! an urn is freed; the sweep goes on -/
section FR
variable {t : Int} {s : Int → Int} {μ ν : mu_T}
/-- the row behind the emptying of a cell -/
def em_ (s : Int → Int) (c : Int) : Int → Int := fun j => if j = 17 + c ∨ j = 41 + c ∨ j = 65 + c ∨ j = 89 + c then 0 else if j = 113 + c ∨ (137 + 4 * c ≤ j ∧ j < 141 + 4 * c) then -15 else s j
theorem l_em {c : Int} (hc : 0 ≤ c ∧ c < 24) : ∀ (n : Nat) (i : Int), 0 ≤ i → i + n = 4 → ∀ f : Nat, n < f → ∀ s : Int → Int, f_X12_empties_L53 c f i (um_ ν 1 s) = some (um_ ν 1 (fun j => if 137 + 4 * c + i ≤ j ∧ j < 141 + 4 * c then -15 else s j)) := by
  intro n
  induction n with
  | zero =>
    intro i i0 hi f hf s
    obtain ⟨f', rfl⟩ : ∃ f', f = f' + 1 := ⟨f - 1, by omega⟩
    have e : (fun j => if 137 + 4 * c + i ≤ j ∧ j < 141 + 4 * c then -15 else s j) = s := by
      funext j
      rw [if_neg (fun q => by omega)]
    rw [f_X12_empties_L53, lt_n (by omega) (by decide) (by omega), e]
  | succ n ih =>
    intro i i0 hi f hf s
    obtain ⟨f', rfl⟩ : ∃ f', f = f' + 1 := ⟨f - 1, by omega⟩
    rw [f_X12_empties_L53, lt_y (by omega) (by decide) (by omega), e_at, bd_some, wr_e (by omega) (by omega), st_um, nm_q, ih (i + 1) (by omega) (by omega) f' (by omega) _]
    congr 2
    funext j
    simp only [ur_]
    omega
theorem e_em {c : Int} (hc : 0 ≤ c ∧ c < 24) : f_X12_empties (um_ ν 1 s) c = some (um_ ν 1 (em_ s c)) := by
  obtain ⟨F, hF, hF2⟩ := F_big
  unfold f_X12_empties
  rw [← hF2, wr_e (by omega) (by omega), st_um, wr_e (by omega) (by omega), st_um, wr_e (by omega) (by omega), st_um, wr_e (by omega) (by omega), st_um, wr_e (by omega) (by omega), st_um, l_em hc 4 0 (by decide) (by decide) F (by omega)]
  congr 2
  funext j
  simp only [em_, ur_]
  omega
theorem l_fi {J : mu_T → Option mu_T} {c k : Int} (hc : 0 ≤ c ∧ c < 24) (hk : 0 ≤ k ∧ k < 24) : ∀ (n : Nat) (i : Int), 0 ≤ i → i + n = 4 → ∀ f : Nat, n < f → ∀ s : Int → Int, (∀ j, 113 ≤ j → j < 233 → rg_ (s j)) → f_X12_frees_L39 J c k f i (um_ ν 1 s) = J (um_ ν 1 (fun j => if (137 + 4 * k + i ≤ j ∧ j < 141 + 4 * k) ∧ s j = c then -15 else s j)) := by
  intro n
  induction n with
  | zero =>
    intro i i0 hi f hf s hs
    obtain ⟨f', rfl⟩ : ∃ f', f = f' + 1 := ⟨f - 1, by omega⟩
    have e : (fun j => if (137 + 4 * k + i ≤ j ∧ j < 141 + 4 * k) ∧ s j = c then -15 else s j) = s := by
      funext j
      rw [if_neg (fun q => by omega)]
    rw [f_X12_frees_L39, lt_n (by omega) (by decide) (by omega), e]
  | succ n ih =>
    intro i i0 hi f hf s hs
    obtain ⟨f', rfl⟩ : ∃ f', f = f' + 1 := ⟨f - 1, by omega⟩
    have q := hs (137 + 4 * k + i) (by omega) (by omega)
    rw [f_X12_frees_L39, lt_y (by omega) (by decide) (by omega), e_at, bd_some, rd_e (by omega) (by omega), um_self, jn_e]
    by_cases h : s (137 + 4 * k + i) = c
    · rw [eq_y h, bd_some, wr_e (by omega) (by omega), st_um]
      refine (ih (i + 1) (by omega) (by omega) f' (by omega) (ur_ s (137 + 4 * k + i) (-15)) (fun j j0 j1 => ?_)).trans ?_
      · unfold ur_
        split
        · decide
        · exact hs j j0 j1
      · congr 2
        funext j
        by_cases hj : j = 137 + 4 * k + i
        · have e : ur_ s (137 + 4 * k + i) (-15) j = -15 := by
            rw [hj]
            exact ur_y
          have e2 : s j = c := by
            rw [hj]
            exact h
          rw [e]
          omega
        · have e : ur_ s (137 + 4 * k + i) (-15) j = s j := ur_n hj
          rw [e]
          omega
    · rw [eq_n q (by omega) h]
      refine (ih (i + 1) (by omega) (by omega) f' (by omega) s hs).trans ?_
      congr 2
      funext j
      by_cases hj : j = 137 + 4 * k + i
      · subst hj
        omega
      · omega
theorem l_fo {J : mu_T → Option mu_T} {c : Int} (hc : 0 ≤ c ∧ c < 24) : ∀ (n : Nat) (i : Int), 0 ≤ i → i + n = 24 → ∀ f : Nat, n < f → ∀ s : Int → Int, (∀ j, 113 ≤ j → j < 233 → rg_ (s j)) → f_X12_frees_L7 J c f i (um_ ν 1 s) = J (um_ ν 1 (fun j => if ((113 + i ≤ j ∧ j < 137) ∨ (137 + 4 * i ≤ j ∧ j < 233)) ∧ s j = c then -15 else s j)) := by
  intro n
  induction n with
  | zero =>
    intro i i0 hi f hf s hs
    obtain ⟨f', rfl⟩ : ∃ f', f = f' + 1 := ⟨f - 1, by omega⟩
    have e : (fun j => if ((113 + i ≤ j ∧ j < 137) ∨ (137 + 4 * i ≤ j ∧ j < 233)) ∧ s j = c then -15 else s j) = s := by
      funext j
      rw [if_neg (fun q => by omega)]
    rw [f_X12_frees_L7, lt_n (by omega) (by decide) (by omega), e]
  | succ n ih =>
    intro i i0 hi f hf s hs
    obtain ⟨f', rfl⟩ : ∃ f', f = f' + 1 := ⟨f - 1, by omega⟩
    obtain ⟨F, hF, hF2⟩ := F_big
    have q := hs (113 + i) (by omega) (by omega)
    have key : ∀ s1 : Int → Int, (∀ j, s1 j = if j = 113 + i ∧ s j = c then -15 else s j) → f_X12_frees_L39 (fun μ76 => nm_ (i + 1) (fun n76 => f_X12_frees_L7 J c f' n76 μ76)) c i F 0 (um_ ν 1 s1) = J (um_ ν 1 (fun j => if ((113 + i ≤ j ∧ j < 137) ∨ (137 + 4 * i ≤ j ∧ j < 233)) ∧ s j = c then -15 else s j)) := by
      intro s1 e1
      have hs1 : ∀ j, 113 ≤ j → j < 233 → rg_ (s1 j) := fun j a b => by
        rw [e1]
        split
        · decide
        · exact hs j a b
      refine (l_fi hc ⟨i0, by omega⟩ 4 0 (by decide) (by decide) F (by omega) s1 hs1).trans ?_
      refine (ih (i + 1) (by omega) (by omega) f' (by omega) _ (fun j a b => ?_)).trans ?_
      · show rg_ (if _ then _ else _)
        split
        · decide
        · exact hs1 j a b
      · congr 2
        funext j
        have q1 := e1 j
        have hX : ∀ z w : Int, w = s1 j → z = (if (137 + 4 * i + 0 ≤ j ∧ j < 141 + 4 * i) ∧ w = c then -15 else w) → (if ((113 + (i + 1) ≤ j ∧ j < 137) ∨ (137 + 4 * (i + 1) ≤ j ∧ j < 233)) ∧ z = c then -15 else z) = if ((113 + i ≤ j ∧ j < 137) ∨ (137 + 4 * i ≤ j ∧ j < 233)) ∧ s j = c then -15 else s j := fun z w hw hz => by omega
        exact hX _ _ rfl rfl
    rw [f_X12_frees_L7, ← hF2, lt_y (by omega) (by decide) (by omega), rd_e (by omega) (by omega), um_self, jn_e]
    by_cases h : s (113 + i) = c
    · rw [eq_y h, wr_e (by omega) (by omega), st_um]
      refine key _ (fun j => ?_)
      unfold ur_
      by_cases hj : j = 113 + i
      · rw [if_pos hj, if_pos ⟨hj, by rw [hj]; exact h⟩]
      · rw [if_neg hj, if_neg (fun w => hj w.1)]
    · rw [eq_n q (by omega) h]
      refine key _ (fun j => ?_)
      rw [if_neg (fun w => h (by rw [← w.1]; exact w.2))]
theorem l_fs {J : mu_T → Option mu_T} : ∀ (n : Nat) (i : Int), i = n → n ≤ 11 → ∀ f : Nat, n < f → ∀ s : Int → Int, f_X12_frees_L85 J f i (um_ ν 1 s) = J (um_ ν 1 (fun j => if 281 < j ∧ j ≤ 281 + i then s (j - 1) else s j)) := by
  intro n
  induction n with
  | zero =>
    intro i hi hn f hf s
    obtain ⟨f', rfl⟩ : ∃ f', f = f' + 1 := ⟨f - 1, by omega⟩
    have e : (fun j => if 281 < j ∧ j ≤ 281 + i then s (j - 1) else s j) = s := by
      funext j
      rw [if_neg (fun q => by omega)]
    rw [f_X12_frees_L85, lt_n (by decide) (by omega) (by omega), e]
  | succ n ih =>
    intro i hi hn f hf s
    obtain ⟨f', rfl⟩ : ∃ f', f = f' + 1 := ⟨f - 1, by omega⟩
    rw [f_X12_frees_L85, lt_y (by decide) (by omega) (by omega), rd_e (by omega) (by omega), um_self, wr_e (by omega) (by omega), st_um, nm_q, ih (i + (-1)) (by omega) (by omega) f' (by omega) _]
    congr 2
    funext j
    simp only [ur_]
    by_cases hj : j = 281 + i
    · subst hj
      rw [if_pos rfl]
      omega
    · omega
theorem e_fe {c a b : Int} (h10 : s 10 = a) (h4 : s 4 = b) (ha : rg_ a) : wr_ (um_ ν 1 s) 1 293 281 c (fun μ125 => rd_ μ125 1 293 10 (fun v133 => rd_ μ125 1 293 10 (fun v140 => jn_ (φ := Int → Option mu_T) (fun s0_151 => wr_ μ125 1 293 10 (v133 + s0_151) (fun μ152 => rd_ μ152 1 293 4 (fun v159 => wr_ μ152 1 293 4 (v159 + 1) (fun μ162 => some μ162)))) (fun J151 => lt_ v140 12 (J151 1) (J151 0))))) = some (um_ ν 1 (ur_ (ur_ (ur_ s 281 c) 10 (if a < 12 then a + 1 else a)) 4 (b + 1))) := by
  have e10 : ur_ s 281 c 10 = a := (ur_n (by decide)).trans h10
  have e4 : ∀ v, ur_ (ur_ s 281 c) 10 v 4 = b := fun v => by rw [ur_n (by decide), ur_n (by decide), h4]
  rw [wr_e (by decide) (by decide), st_um, rd_e (by decide) (by decide), um_self, e10, rd_e (by decide) (by decide), um_self, e10]
  simp only [jn_e]
  have key : ∀ w : Int, wr_ (um_ ν 1 (ur_ s 281 c)) 1 293 10 w (fun μ152 => rd_ μ152 1 293 4 (fun v159 => wr_ μ152 1 293 4 (v159 + 1) (fun μ162 => some μ162))) = some (um_ ν 1 (ur_ (ur_ (ur_ s 281 c) 10 w) 4 (b + 1))) := fun w => by
    rw [wr_e (by decide) (by decide), st_um, rd_e (by decide) (by decide), um_self, e4, wr_e (by decide) (by decide), st_um]
  rw [key, key]
  by_cases h : a < 12
  · rw [lt_y ha (by decide) h, if_pos h]
  · rw [lt_n ha (by decide) h, if_neg h, Int.add_zero]
def fb_ (s : Int → Int) (c : Int) : Int → Int := fun j => if ((113 + 0 ≤ j ∧ j < 137) ∨ (137 + 4 * 0 ≤ j ∧ j < 233)) ∧ em_ s c j = c then -15 else em_ s c j
/-- the row behind the freeing of an urn -/
def fq_ (s : Int → Int) (c : Int) : Int → Int := ur_ (ur_ (ur_ (fun j => if 281 < j ∧ j ≤ 281 + 11 then fb_ s c (j - 1) else fb_ s c j) 281 c) 10 (if s 10 < 12 then s 10 + 1 else s 10)) 4 (s 4 + 1)
theorem e_frees {c : Int} (hc : 0 ≤ c ∧ c < 24) (hs : ∀ j, 113 ≤ j → j < 233 → rg_ (s j)) (h10 : rg_ (s 10)) : f_X12_frees (um_ ν 1 s) c = some (um_ ν 1 (fq_ s c)) := by
  obtain ⟨F, hF, hF2⟩ := F_big
  unfold f_X12_frees
  rw [← hF2, e_em hc, bd_some, jn_e]
  have h1 : ∀ j, 113 ≤ j → j < 233 → rg_ (em_ s c j) := fun j a b => by
    have q := hs j a b
    simp only [em_]
    omega
  refine (l_fo hc 24 0 (by decide) (by decide) F (by omega) _ h1).trans ?_
  refine (l_fs 11 11 rfl (by decide) F (by omega) _).trans ?_
  refine e_fe ?_ ?_ h10
  · simp only [em_]
    omega
  · simp only [em_]
    omega
theorem fq_low {c j : Int} (hc : 0 ≤ c ∧ c < 24) (hj : j < 17) (h4 : j ≠ 4) (h10 : j ≠ 10) : fq_ s c j = s j := by
  simp only [fq_, fb_, em_, ur_]
  omega
theorem fq_17 {c x : Int} (hc : 0 ≤ c ∧ c < 24) (hx : 0 ≤ x ∧ x < 24) : fq_ s c (17 + x) = if x = c then 0 else s (17 + x) := by
  simp only [fq_, fb_, em_, ur_]
  omega
theorem fq_41 {c x : Int} (hc : 0 ≤ c ∧ c < 24) (hx : 0 ≤ x ∧ x < 24) : fq_ s c (41 + x) = if x = c then 0 else s (41 + x) := by
  simp only [fq_, fb_, em_, ur_]
  omega
theorem fq_65 {c x : Int} (hc : 0 ≤ c ∧ c < 24) (hx : 0 ≤ x ∧ x < 24) : fq_ s c (65 + x) = if x = c then 0 else s (65 + x) := by
  simp only [fq_, fb_, em_, ur_]
  omega
theorem fq_89 {c x : Int} (hc : 0 ≤ c ∧ c < 24) (hx : 0 ≤ x ∧ x < 24) : fq_ s c (89 + x) = if x = c then 0 else s (89 + x) := by
  simp only [fq_, fb_, em_, ur_]
  omega
theorem fq_113 {c x : Int} (hc : 0 ≤ c ∧ c < 24) (hx : 0 ≤ x ∧ x < 24) : fq_ s c (113 + x) = if x = c ∨ s (113 + x) = c then -15 else s (113 + x) := by
  simp only [fq_, fb_, em_, ur_]
  omega
theorem fq_137 {c k : Int} (hc : 0 ≤ c ∧ c < 24) (hx : 0 ≤ k ∧ k < 96) : fq_ s c (137 + k) = if (4 * c ≤ k ∧ k < 4 * c + 4) ∨ s (137 + k) = c then -15 else s (137 + k) := by
  simp only [fq_, fb_, em_, ur_]
  omega
theorem fq_233 {c j : Int} (hc : 0 ≤ c ∧ c < 24) (hx : 233 ≤ j ∧ j < 281) : fq_ s c j = s j := by
  simp only [fq_, fb_, em_, ur_]
  omega
theorem fq_281 {c k : Int} (hc : 0 ≤ c ∧ c < 24) (hx : 0 ≤ k ∧ k < 12) : fq_ s c (281 + k) = if k = 0 then c else s (281 + (k - 1)) := by
  have e : (281 : Int) + k - 1 = 281 + (k - 1) := by omega
  simp only [fq_, fb_, em_, ur_, e]
  omega
theorem fq_10 {c : Int} : fq_ s c 10 = if s 10 < 12 then s 10 + 1 else s 10 := by
  unfold fq_
  rw [ur_n (by decide), ur_y]
theorem fq_4 {c : Int} : fq_ s c 4 = s 4 + 1 := ur_y
end FR
