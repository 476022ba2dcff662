/-! the sweep: what holds, and the program's side -/
theorem rm_e {α : Type} {a b : Int} {f : Int → Option α} (ha : rg_ a) (hb : rg_ b) (h0 : 0 ≤ a) (hb0 : b ≠ 0) : rm_ a b f = f (a % b) := by
  unfold rm_
  rw [if_pos ⟨ha, hb, hb0⟩, Int.tmod_eq_emod_of_nonneg h0]
theorem dv_e {α : Type} {a b : Int} {f : Int → Option α} (ha : rg_ a) (hb : rg_ b) (h0 : 0 ≤ a) (hb0 : b ≠ 0) : dv_ a b f = f (a / b) := by
  unfold dv_
  rw [if_pos ⟨ha, hb, hb0⟩, Int.tdiv_eq_ediv_of_nonneg h0]
theorem wz_e {α : Type} {μ : mu_T} {k : Nat} {i v : Int} {f : mu_T → Option α} (h : v = 0 ∨ v = 1) : wz_ μ k i v f = f (st_ μ k i v) := if_pos h
section SW
variable {t : Int} {s : Int → Int} {μ ν : mu_T}
/-- what holds inside of a part that sweeps -/
def zn_ (t : Int) (s : Int → Int) : Prop := s 0 = 2 ∧ iv_T s ∧ iv_H s ∧ iv_W s ∧ iv_M s ∧ iv_D s ∧ iv_G s ∧ iv_L s ∧ iv_C t s
theorem zn_next (h : zn_ t s) (hn : 0 ≤ s 1 ∧ s 1 < 24) : iv_ t s := by
  obtain ⟨h0, hT, hH, hW, hM, hD, hG, hL, hC⟩ := h
  exact ⟨hT, ⟨by omega, hn, fun q => absurd h0 q⟩, hH, hW, hM, hD, hG, hL, hC⟩
theorem zn_end {w : Int} (h : zn_ t s) : iv_ t (ur_ (ur_ (ur_ s 1 0) 0 0) 2 w) := by
  obtain ⟨h0, hT, hH, hW, hM, hD, hG, hL, hC⟩ := h
  have k0 : ∀ j, 3 ≤ j → ur_ (ur_ (ur_ s 1 0) 0 0) 2 w j = s j := fun j hj => by rw [ur_n (by omega), ur_n (by omega), ur_n (by omega)]
  have e0 : ur_ (ur_ (ur_ s 1 0) 0 0) 2 w 0 = 0 := by rw [ur_n (by decide), ur_y]
  have e1 : ur_ (ur_ (ur_ s 1 0) 0 0) 2 w 1 = 0 := by rw [ur_n (by decide), ur_n (by decide), ur_y]
  have sfk : ∀ x, sf_ (ur_ (ur_ (ur_ s 1 0) 0 0) 2 w) x := fun x => ⟨fun z => by rw [e0] at z; omega, fun z => by rw [e0] at z; omega⟩
  have h8 : s 8 = 0 := hG.2.2.2 (by omega)
  refine ⟨iv_T_k (fun j a b => k0 j (by omega)) hT, ⟨by rw [e0]; omega, by rw [e1]; omega, fun _ => e1⟩, iv_H_k (fun j a b => k0 j (by omega)) (fun k a b => Or.inl (k0 _ (by omega))) hH, fun x x0 x1 => ?_, fun k a b => ?_, ⟨⟨by rw [k0 9 (by omega)]; exact hD.1.1, ?_⟩, fun k a b => ?_, fun j k a b c => ?_, fun c a b d => ?_⟩, ⟨⟨by rw [k0 8 (by omega)]; exact hG.1.1, ?_⟩, fun k a b => ?_, fun j k a b c => ?_, fun _ => by rw [k0 8 (by omega)]; exact h8⟩, iv_L_k (k0 4 (by omega)) (k0 10 (by omega)) hL, iv_C_k (k0 3 (by omega)) (k0 4 (by omega)) (fun j a b => k0 j (by omega)) hC⟩
  · rw [k0 (113 + x) (by omega), e0]
    exact ⟨ft_k (fun j a b => k0 j (by omega)) (hW x x0 x1).1, fun z => by omega⟩
  · rw [k0 (11 + k) (by omega)]
    exact ⟨ft_k (fun j a b => k0 j (by omega)) (hM k a b).1, fun _ => sfk _⟩
  · rw [k0 9 (by omega), hD.1.2]
    exact cn_eq 24 (fun c a b => by rw [k0 (65 + c) (by omega)])
  · rw [k0 9 (by omega)] at b
    obtain ⟨q0, q1, q2⟩ := hD.2.1 k a b
    rw [k0 (257 + k) (by omega), k0 _ (by omega)]
    exact ⟨q0, q1, sfk _⟩
  · rw [k0 9 (by omega)] at c
    rw [k0 (257 + j) (by omega), k0 (257 + k) (by omega)]
    exact hD.2.2.1 j k a b c
  · rw [k0 _ (by omega)] at d
    obtain ⟨k, q0, q1, q2⟩ := hD.2.2.2 c a b d
    exact ⟨k, q0, by rw [k0 9 (by omega)]; exact q1, by rw [k0 _ (by omega)]; exact q2⟩
  · rw [k0 8 (by omega), hG.1.2]
    exact cn_eq 24 (fun c a b => by rw [k0 (41 + c) (by omega)])
  · rw [k0 8 (by omega)] at b
    omega
  · rw [k0 8 (by omega)] at c
    omega
theorem cn_z {p q : Int → Bool} {i : Int} (hi : 0 ≤ i ∧ i < 24) (hq : ∀ c : Int, 0 ≤ c → c < 24 → c ≠ i → q c = p c) (hz : cn_ p 24 = 0) (hf : q i = false) : cn_ q 24 = 0 := by
  have e := cn_up hi.1 24 hq
  have h0 := cn_0 q 24
  rw [if_pos (by omega), hf, hz, if_neg (by decide)] at e
  by_cases h : p i = true
  · rw [if_pos h] at e
    omega
  · rw [if_neg h] at e
    omega
theorem zn_white {c : Int} (hI : iv_ t s) (hp : s 0 = 2) (h1 : s 1 = c) : zn_ t (ur_ (ur_ s (41 + c) 0) 1 (c + 1)) := by
  obtain ⟨hT, hP, hH, hW, hM, hD, hG, hL, hC⟩ := hI
  have hc : 0 ≤ c ∧ c < 24 := by have := hP.2.1; omega
  have k0 : ∀ j, j ≠ 1 → (j < 41 ∨ 65 ≤ j) → ur_ (ur_ s (41 + c) 0) 1 (c + 1) j = s j := fun j a b => by rw [ur_n a, ur_n (by omega)]
  have e0 := k0 0 (by omega) (by omega)
  have e1 : ur_ (ur_ s (41 + c) 0) 1 (c + 1) 1 = c + 1 := ur_y
  have e41 : ∀ x, 0 ≤ x → x < 24 → ur_ (ur_ s (41 + c) 0) 1 (c + 1) (41 + x) = if x = c then 0 else s (41 + x) := fun x a b => by
    simp only [ur_]
    omega
  have dm : ∀ x, 0 ≤ x → x < 24 → ¬ (s (41 + x) = 0 ∧ s 1 ≤ x) → ¬ (ur_ (ur_ s (41 + c) 0) 1 (c + 1) (41 + x) = 0 ∧ ur_ (ur_ s (41 + c) 0) 1 (c + 1) 1 ≤ x) := fun x a b h q => by
    rw [e41 x a b, e1] at q
    rw [if_neg (by omega)] at q
    exact h ⟨q.1, by omega⟩
  have sfk : ∀ x, 0 ≤ x → x < 24 → sf_ s x → sf_ (ur_ (ur_ s (41 + c) 0) 1 (c + 1)) x := fun x a b h => ⟨fun z => by rw [e0] at z; omega, fun _ => dm x a b (h.2 hp)⟩
  have h8 : s 8 = 0 := hG.2.2.2 (by omega)
  refine ⟨e0.trans hp, fun x x0 x1 => ?_, iv_H_k (fun j a b => k0 j (by omega) (by omega)) (fun k a b => Or.inl (k0 _ (by omega) (by omega))) hH, fun x x0 x1 => ?_, fun k a b => ?_, ⟨⟨by rw [k0 9 (by omega) (by omega)]; exact hD.1.1, ?_⟩, fun k a b => ?_, fun j k a b c => ?_, fun c a b d => ?_⟩, ⟨⟨by rw [k0 8 (by omega) (by omega)]; exact hG.1.1, ?_⟩, fun k a b => ?_, fun j k a b c => ?_, fun _ => by rw [k0 8 (by omega) (by omega)]; exact h8⟩, iv_L_k (k0 4 (by omega) (by omega)) (k0 10 (by omega) (by omega)) hL, iv_C_k (k0 3 (by omega) (by omega)) (k0 4 (by omega) (by omega)) (fun j a b => k0 j (by omega) (by omega)) hC⟩
  · have q := hT x x0 x1
    rw [k0 (17 + x) (by omega) (by omega), k0 (65 + x) (by omega) (by omega), e41 x x0 x1]
    omega
  · have q := hW x x0 x1
    rw [k0 (113 + x) (by omega) (by omega)]
    refine ⟨ft_k (fun j a b => k0 j (by omega) (by omega)) q.1, fun _ z => ?_⟩
    have hb := ft_in q.1 z
    exact dm _ hb.1 hb.2 (q.2 hp z)
  · rw [k0 (11 + k) (by omega) (by omega)]
    have q := hM k a b
    refine ⟨ft_k (fun j a b => k0 j (by omega) (by omega)) q.1, fun z => ?_⟩
    have hb := ft_in q.1 z
    exact sfk _ hb.1 hb.2 (q.2 z)
  · rw [k0 9 (by omega) (by omega), hD.1.2]
    exact cn_eq 24 (fun c a b => by rw [k0 (65 + c) (by omega) (by omega)])
  · rw [k0 9 (by omega) (by omega)] at b
    obtain ⟨q0, q1, q2⟩ := hD.2.1 k a b
    rw [k0 (257 + k) (by omega) (by omega), k0 _ (by omega) (by omega)]
    exact ⟨q0, q1, sfk _ q0.1 q0.2 q2⟩
  · rw [k0 9 (by omega) (by omega)] at c
    rw [k0 (257 + j) (by omega) (by omega), k0 (257 + k) (by omega) (by omega)]
    exact hD.2.2.1 j k a b c
  · rw [k0 _ (by omega) (by omega)] at d
    obtain ⟨k, q0, q1, q2⟩ := hD.2.2.2 c a b d
    exact ⟨k, q0, by rw [k0 9 (by omega) (by omega)]; exact q1, by rw [k0 _ (by omega) (by omega)]; exact q2⟩
  · rw [k0 8 (by omega) (by omega), h8]
    refine (cn_z (p := fun x => decide (s (41 + x) = 1)) hc (fun x x0 x1 xn => ?_) (hG.1.2.symm.trans h8) ?_).symm
    · show decide _ = decide _
      rw [e41 x x0 x1, if_neg xn]
    · show decide _ = false
      rw [e41 c hc.1 hc.2, if_pos rfl]
      rfl
  · rw [k0 8 (by omega) (by omega)] at b
    omega
  · rw [k0 8 (by omega) (by omega)] at c
    omega
theorem zn_free {c : Int} (hI : iv_ t s) (hp : s 0 = 2) (h1 : s 1 = c) (hu : ur9_ s c) (hw : s (41 + c) = 0) : zn_ t (ur_ (fq_ s c) 1 (c + 1)) ∧ ∀ x, 0 ≤ x → x < 24 → s (113 + x) ≠ c := by
  obtain ⟨hT, hP, hH, hW, hM, hD, hG, hL, hC⟩ := hI
  obtain ⟨hc, hu⟩ := hu
  have n9 := d_le hD
  have noW : ∀ x, 0 ≤ x → x < 24 → s (113 + x) ≠ c := fun x x0 x1 q => (hW x x0 x1).2 hp (by omega) (by rw [q]; exact ⟨hw, by omega⟩)
  have low : ∀ j, j < 17 → j ≠ 1 → j ≠ 4 → j ≠ 10 → ur_ (fq_ s c) 1 (c + 1) j = s j := fun j a b d e => by rw [ur_n b, fq_low hc a d e]
  have e0 := low 0 (by omega) (by omega) (by omega) (by omega)
  have e1 : ur_ (fq_ s c) 1 (c + 1) 1 = c + 1 := ur_y
  have e4 : ur_ (fq_ s c) 1 (c + 1) 4 = s 4 + 1 := by rw [ur_n (by decide), fq_4]
  have e10 : ur_ (fq_ s c) 1 (c + 1) 10 = if s 10 < 12 then s 10 + 1 else s 10 := by rw [ur_n (by decide), fq_10]
  have e17 : ∀ x, 0 ≤ x → x < 24 → ur_ (fq_ s c) 1 (c + 1) (17 + x) = if x = c then 0 else s (17 + x) := fun x a b => by rw [ur_n (by omega), fq_17 hc ⟨a, b⟩]
  have e41 : ∀ x, 0 ≤ x → x < 24 → ur_ (fq_ s c) 1 (c + 1) (41 + x) = if x = c then 0 else s (41 + x) := fun x a b => by rw [ur_n (by omega), fq_41 hc ⟨a, b⟩]
  have e65 : ∀ x, 0 ≤ x → x < 24 → ur_ (fq_ s c) 1 (c + 1) (65 + x) = if x = c then 0 else s (65 + x) := fun x a b => by rw [ur_n (by omega), fq_65 hc ⟨a, b⟩]
  have e113 : ∀ x, 0 ≤ x → x < 24 → ur_ (fq_ s c) 1 (c + 1) (113 + x) = if x = c then -15 else s (113 + x) := fun x a b => by
    rw [ur_n (by omega), fq_113 hc ⟨a, b⟩]
    have := noW x a b
    by_cases hx : x = c
    · rw [if_pos hx, if_pos (Or.inl hx)]
    · rw [if_neg hx, if_neg (by omega)]
  have e137 : ∀ k, 0 ≤ k → k < 96 → ur_ (fq_ s c) 1 (c + 1) (137 + k) = if (4 * c ≤ k ∧ k < 4 * c + 4) ∨ s (137 + k) = c then -15 else s (137 + k) := fun x a b => by rw [ur_n (by omega), fq_137 hc ⟨a, b⟩]
  have e233 : ∀ j, 233 ≤ j → j < 281 → ur_ (fq_ s c) 1 (c + 1) j = s j := fun j a b => by rw [ur_n (by omega), fq_233 hc ⟨a, b⟩]
  have ft : ∀ x, ft_ s x → x ≠ c → ft_ (ur_ (fq_ s c) 1 (c + 1)) x := fun x h hx => by
    rcases h with q | ⟨q0, q1, q2⟩
    · exact Or.inl q
    · exact Or.inr ⟨q0, q1, by rw [e17 x q0 q1, if_neg hx]; exact q2⟩
  have dm : ∀ x, 0 ≤ x → x < 24 → ¬ (s (41 + x) = 0 ∧ s 1 ≤ x) → x ≠ c ∧ ¬ (ur_ (fq_ s c) 1 (c + 1) (41 + x) = 0 ∧ ur_ (fq_ s c) 1 (c + 1) 1 ≤ x) := fun x a b h => by
    have hx : x ≠ c := fun q => h (by rw [q]; exact ⟨hw, by omega⟩)
    refine ⟨hx, fun q => ?_⟩
    rw [e41 x a b, e1, if_neg hx] at q
    exact h ⟨q.1, by omega⟩
  have sfk : ∀ x, 0 ≤ x → x < 24 → sf_ s x → x ≠ c ∧ sf_ (ur_ (fq_ s c) 1 (c + 1)) x := fun x a b h => ⟨(dm x a b (h.2 hp)).1, fun z => by rw [e0] at z; omega, fun _ => (dm x a b (h.2 hp)).2⟩
  have h8 : s 8 = 0 := hG.2.2.2 (by omega)
  have z8 := low 8 (by omega) (by omega) (by omega) (by omega)
  have z9 := low 9 (by omega) (by omega) (by omega) (by omega)
  have hr2 : s (65 + c) ≠ 2 := fun q => by
    obtain ⟨k, k0, k1, k2⟩ := hD.2.2.2 c hc.1 hc.2 q
    have w := (hD.2.1 k k0 k1).2.2
    rw [k2] at w
    exact w.2 hp ⟨hw, by omega⟩
  refine ⟨⟨e0.trans hp, fun x x0 x1 => ?_, fun k k0 k1 => ?_, fun x x0 x1 => ?_, fun k a b => ?_, ⟨⟨by rw [z9]; exact hD.1.1, ?_⟩, fun k a b => ?_, fun j k a b d => ?_, fun x a b d => ?_⟩, ⟨⟨by rw [z8]; exact hG.1.1, ?_⟩, fun k a b => ?_, fun j k a b d => ?_, fun _ => by rw [z8]; exact h8⟩, ?_, ?_, ?_⟩, noW⟩
  · have q := hT x x0 x1
    rw [e17 x x0 x1, e41 x x0 x1, e65 x x0 x1]
    by_cases hx : x = c
    · rw [if_pos hx, if_pos hx, if_pos hx]
      omega
    · rw [if_neg hx, if_neg hx, if_neg hx]
      exact q
  · rw [e137 k k0 k1]
    by_cases q : (4 * c ≤ k ∧ k < 4 * c + 4) ∨ s (137 + k) = c
    · rw [if_pos q]
      exact Or.inl rfl
    · rw [if_neg q]
      exact ft _ (hH k k0 k1) (fun w => q (Or.inr w))
  · rw [e113 x x0 x1]
    by_cases hx : x = c
    · rw [if_pos hx]
      exact ⟨Or.inl rfl, fun _ q => absurd rfl q⟩
    · rw [if_neg hx]
      have q := hW x x0 x1
      refine ⟨ft _ q.1 (noW x x0 x1), fun _ z => ?_⟩
      have hb := ft_in q.1 z
      exact (dm _ hb.1 hb.2 (q.2 hp z)).2
  · rw [low (11 + k) (by omega) (by omega) (by omega) (by omega)]
    have q := hM k a b
    by_cases z : s (11 + k) = -15
    · rw [z]
      exact ⟨Or.inl rfl, fun q => absurd rfl q⟩
    · have hb := ft_in q.1 z
      have w := sfk _ hb.1 hb.2 (q.2 z)
      exact ⟨ft _ q.1 w.1, fun _ => w.2⟩
  · rw [z9, hD.1.2]
    refine cn_eq 24 (fun x a b => ?_)
    rw [e65 x a (by omega)]
    by_cases hx : x = c
    · rw [if_pos hx, hx, decide_eq_false hr2]
      rfl
    · rw [if_neg hx]
  · rw [z9] at b
    obtain ⟨q0, q1, q2⟩ := hD.2.1 k a b
    have w := sfk _ q0.1 q0.2 q2
    rw [e233 (257 + k) (by omega) (by omega)]
    exact ⟨q0, by rw [e65 _ q0.1 q0.2, if_neg w.1]; exact q1, w.2⟩
  · rw [z9] at d
    rw [e233 (257 + j) (by omega) (by omega), e233 (257 + k) (by omega) (by omega)]
    exact hD.2.2.1 j k a b d
  · rw [e65 x a b] at d
    have hx : x ≠ c := fun q => by
      rw [if_pos q] at d
      omega
    rw [if_neg hx] at d
    obtain ⟨k, q0, q1, q2⟩ := hD.2.2.2 x a b d
    exact ⟨k, q0, by rw [z9]; exact q1, by rw [e233 _ (by omega) (by omega)]; exact q2⟩
  · rw [z8, h8]
    refine (cn_z (p := fun x => decide (s (41 + x) = 1)) hc (fun x x0 x1 xn => ?_) (hG.1.2.symm.trans h8) ?_).symm
    · show decide _ = decide _
      rw [e41 x x0 x1, if_neg xn]
    · show decide _ = false
      rw [e41 c hc.1 hc.2, if_pos rfl]
      rfl
  · rw [z8] at b
    omega
  · rw [z8] at d
    omega
  · obtain ⟨l0, l1, l2⟩ := hL
    unfold iv_L
    rw [e4, e10]
    omega
  · have e := cn_up (p := fun x => decide (s (17 + x) = 1)) (q := fun x => decide (ur_ (fq_ s c) 1 (c + 1) (17 + x) = 1)) hc.1 24 (fun x x0 x1 xn => by
      show decide _ = decide _
      rw [e17 x x0 (by omega), if_neg xn])
    have q1 : decide (ur_ (fq_ s c) 1 (c + 1) (17 + c) = 1) = false := by
      rw [e17 c hc.1 hc.2, if_pos rfl]
      rfl
    have q2 : decide (s (17 + c) = 1) = true := by
      rw [hu]
      rfl
    rw [low 3 (by omega) (by omega) (by omega) (by omega), e4, e, if_pos (by omega), q1, q2, hC.1]
    show _ = _ + (0 - 1) + (s 4 + 1)
    omega
  · rw [low 3 (by omega) (by omega) (by omega) (by omega)]
    exact hC.2
-- the program's freeing
def ft_1 (μ : mu_T) (c : Int) : Int → Int := fun k => if (0 ≤ k ∧ k < 96) ∧ (if c * 4 + 0 ≤ k ∧ k < c * 4 + 4 then -15 else μ 1 k) = c then -15 else if c * 4 + 0 ≤ k ∧ k < c * 4 + 4 then -15 else μ 1 k
def fm_ (μ : mu_T) (c n : Int) : mu_T := st_ (st_ (um_ (st_ (st_ (st_ μ 4 c (-1)) 3 c 0) 2 c (-15)) 1 (ft_1 μ c)) 7 (n % 12) c) 0 13 (n + 1)
theorem l_33 {J : mu_T → Option mu_T} {c : Int} (hc : 0 ≤ c ∧ c < 24) : ∀ (n : Nat) (i : Int), 0 ≤ i → i + n = 4 → ∀ f : Nat, n < f → ∀ κ : mu_T, f_X2_free_L33 J c f i κ = J (um_ κ 1 (fun k => if c * 4 + i ≤ k ∧ k < c * 4 + 4 then -15 else κ 1 k)) := by
  intro n
  induction n with
  | zero =>
    intro i i0 hi f hf κ
    obtain ⟨f', rfl⟩ : ∃ f', f = f' + 1 := ⟨f - 1, by omega⟩
    have e : (fun k => if c * 4 + i ≤ k ∧ k < c * 4 + 4 then -15 else κ 1 k) = κ 1 := by
      funext j
      rw [if_neg (fun q => by omega)]
    rw [f_X2_free_L33, lt_n (by omega) (by decide) (by omega), e, um_id]
  | succ n ih =>
    intro i i0 hi f hf κ
    obtain ⟨f', rfl⟩ : ∃ f', f = f' + 1 := ⟨f - 1, by omega⟩
    rw [f_X2_free_L33, lt_y (by omega) (by decide) (by omega), wr_e (by omega) (by omega), nm_q, ih (i + 1) (by omega) (by omega) f' (by omega) _]
    unfold st_
    rw [um_um, um_self]
    congr 2
    funext j
    simp only [ur_]
    omega
theorem l_58 {J : mu_T → Option mu_T} {c : Int} (hc : 0 ≤ c ∧ c < 24) : ∀ (n : Nat) (i : Int), 0 ≤ i → i + n = 96 → ∀ f : Nat, n < f → ∀ κ : mu_T, (∀ k, 0 ≤ k → k < 96 → rg_ (κ 1 k)) → f_X2_free_L58 J c f i κ = J (um_ κ 1 (fun k => if (i ≤ k ∧ k < 96) ∧ κ 1 k = c then -15 else κ 1 k)) := by
  intro n
  induction n with
  | zero =>
    intro i i0 hi f hf κ hk
    obtain ⟨f', rfl⟩ : ∃ f', f = f' + 1 := ⟨f - 1, by omega⟩
    have e : (fun k => if (i ≤ k ∧ k < 96) ∧ κ 1 k = c then -15 else κ 1 k) = κ 1 := by
      funext j
      rw [if_neg (fun q => by omega)]
    rw [f_X2_free_L58, lt_n (by omega) (by decide) (by omega), e, um_id]
  | succ n ih =>
    intro i i0 hi f hf κ hk
    obtain ⟨f', rfl⟩ : ∃ f', f = f' + 1 := ⟨f - 1, by omega⟩
    rw [f_X2_free_L58, lt_y (by omega) (by decide) (by omega), rd_e (by omega) (by omega), jn_e]
    by_cases h : κ 1 i = c
    · rw [eq_y h, wr_e (by omega) (by omega)]
      refine (ih (i + 1) (by omega) (by omega) f' (by omega) (st_ κ 1 i (-15)) (fun k k0 k1 => ?_)).trans ?_
      · rw [st_s]
        split
        · decide
        · exact hk k k0 k1
      · unfold st_
        rw [um_um, um_self]
        congr 2
        funext j
        by_cases hj : j = i
        · have e : ur_ (κ 1) i (-15) j = -15 := by
            rw [hj]
            exact ur_y
          have e2 : κ 1 j = c := by
            rw [hj]
            exact h
          rw [e]
          omega
        · have e : ur_ (κ 1) i (-15) j = κ 1 j := ur_n hj
          rw [e]
          omega
    · rw [eq_n (hk i (by omega) (by omega)) (by omega) h]
      refine (ih (i + 1) (by omega) (by omega) f' (by omega) κ hk).trans ?_
      congr 2
      funext j
      by_cases hj : j = i
      · subst hj
        omega
      · omega
theorem xo_0 {a b : Int} (ha : rg_ a) (hb : rg_ b) (a0 : 0 ≤ a) (b0 : 0 ≤ b) : ¬ xo_ a b < 0 := by
  intro h
  have e : ((iI a ^^^ iI b).toBitVec).msb = true := by
    rw [BitVec.msb_eq_toInt]
    exact decide_eq_true h
  have ea : (iI a).toBitVec.msb = false := by
    rw [BitVec.msb_eq_toInt]
    refine decide_eq_false ?_
    show ¬ (iI a).toInt < 0
    rw [iI_toInt ha]
    omega
  have eb : (iI b).toBitVec.msb = false := by
    rw [BitVec.msb_eq_toInt]
    refine decide_eq_false ?_
    show ¬ (iI b).toInt < 0
    rw [iI_toInt hb]
    omega
  rw [Int32.toBitVec_xor, BitVec.msb_xor, ea, eb] at e
  exact absurd e (by decide)
theorem e_floorMod {a : Int} (ha : rg_ a) (h0 : 0 ≤ a) : f_J9_floorMod_7cf53 μ a 12 = some (a % 12) := by
  unfold f_J9_floorMod_7cf53
  rw [rm_e ha (by decide) h0 (by decide), lt_n (show rg_ (xo_ a 12) from iI_rg _) (by decide) (xo_0 ha (by decide) h0 (by decide))]
theorem e_free {v c : Int} (ht : t ≤ 1000000) (hr : hq_ v μ s) (hI : iv_ t s) (hu : ur9_ s c) : f_X2_free μ c = some (fm_ μ c (s 4)) := by
  obtain ⟨F, hF, hF2⟩ := F_big
  obtain ⟨hc, hu1⟩ := id hu
  have r1 := (hq_d hr).1
  have r16 : μ 0 13 = s 4 := (hq_d hr).2.2.2.2.2.2.2.2.2.2.2.2.2.1
  have h4 : 0 ≤ s 4 := hI.2.2.2.2.2.2.2.1.1
  have h4b : s 4 ≤ 1000000 := by
    have q := hI.2.2.2.2.2.2.2.2
    have w := cn_0 (fun c => decide (s (17 + c) = 1)) 24
    have q1 := q.1
    have q2 := q.2
    omega
  have g1 : ∀ k, 0 ≤ k → k < 96 → rg_ (μ 1 k) := fun k k0 k1 => by
    rw [show μ 1 k = s (137 + k) from r1 k k0 k1]
    exact (ft_r (hI.2.2.1 k k0 k1)).2
  have fin : ∀ Z : mu_T, Z = um_ (st_ (st_ (st_ μ 4 c (-1)) 3 c 0) 2 c (-15)) 1 (ft_1 μ c) → nm_ (Z 0 13) (fun v96 => bd_ (f_J9_floorMod_7cf53 Z v96 12) (fun v101 => wr_ Z 7 12 v101 c (fun μ105 => nm_ (μ105 0 13) (fun v108 => wf_ μ105 0 13 (v108 + 1) (fun μ113 => some μ113))))) = some (fm_ μ c (s 4)) := by
    intro Z hZ
    have z13 : Z 0 13 = s 4 := by
      rw [hZ]
      exact r16
    rw [nm_q, z13]
    rw [e_floorMod ⟨by omega, by omega⟩ h4, bd_some, wr_e (by omega) (by omega), nm_q, st_n (by decide), z13, wf_e, hZ]
    rfl
  unfold f_X2_free
  rw [← hF2, e_hasUrn hI.1 (hq_4 hr) (by omega), bd_some, tr_0, if_pos hu, wr_e hc.1 (by omega), wr_e hc.1 (by omega), wr_e hc.1 (by omega), jn_e]
  refine (l_33 hc 4 0 (by decide) (by decide) F (by omega) _).trans ?_
  refine (l_58 hc 96 0 (by decide) (by decide) F (by omega) _ (fun k k0 k1 => ?_)).trans ?_
  · rw [um_self]
    show rg_ (if _ then _ else μ 1 k)
    split
    · decide
    · exact g1 k k0 k1
  · refine fin _ ?_
    rw [um_um, um_self]
    rfl
theorem hq_fm {v c : Int} (hr : hq_ v μ s) (hI : iv_ t s) (hc : 0 ≤ c ∧ c < 24) (noW : ∀ x, 0 ≤ x → x < 24 → s (113 + x) ≠ c) : hq_ v (fm_ μ c (s 4)) (fq_ s c) := by
  have hle := iv_le hI
  obtain ⟨l0, l1, l2⟩ := hI.2.2.2.2.2.2.2.1
  obtain ⟨r1, r2, r3, r4, r5, r6, r7, ⟨r8, r9⟩, ⟨r10, r11⟩, r12, r13, r14, r15, r16, r17, r18, r19⟩ := hr
  have z : ∀ j, j ≠ 7 → ur_ s 7 v j = s j := fun j hj => ur_n hj
  have y : ∀ j, j ≠ 7 → ur_ (fq_ s c) 7 v j = fq_ s c j := fun j hj => ur_n hj
  have sc : ∀ j, j < 17 → j ≠ 4 → j ≠ 10 → j ≠ 7 → ur_ (fq_ s c) 7 v j = ur_ s 7 v j := fun j a b d e => by rw [y j e, z j e, fq_low hc a b d]
  refine ⟨fun k k0 k1 => ?_, fun k k0 k1 => ?_, fun k k0 k1 => ?_, fun k k0 k1 => ?_, fun k k0 k1 kt => ?_, fun k k0 k1 => ?_, fun k k0 k1 => ?_, ⟨?_, fun k k0 k1 => ?_⟩, ⟨?_, fun k k0 k1 => ?_⟩, ?_, ?_, ?_, ?_, ?_, ?_, ?_, ?_⟩
  · have q := r1 k k0 k1
    rw [z _ (by omega)] at q
    show ft_1 μ c k = _
    rw [y _ (by omega), fq_137 hc ⟨k0, k1⟩]
    simp only [ft_1, q]
    omega
  · have q := r2 k k0 k1
    have := noW k k0 k1
    rw [z _ (by omega)] at q
    show ur_ (μ 2) c (-15) k = _
    rw [y _ (by omega), fq_113 hc ⟨k0, k1⟩]
    by_cases hk : k = c
    · rw [hk, ur_y, if_pos (Or.inl rfl)]
    · rw [ur_n hk, if_neg (by omega)]
      exact q
  · have q := r3 k k0 k1
    rw [z _ (by omega)] at q
    show ur_ (μ 3) c 0 k = _
    rw [y _ (by omega), fq_65 hc ⟨k0, k1⟩]
    by_cases hk : k = c
    · rw [hk, ur_y, if_pos rfl]
    · rw [ur_n hk, if_neg hk]
      exact q
  · have q := r4 k k0 k1
    rw [z _ (by omega), z _ (by omega)] at q
    show ur_ (μ 4) c (-1) k = _
    rw [y _ (by omega), y _ (by omega), fq_17 hc ⟨k0, k1⟩, fq_41 hc ⟨k0, k1⟩]
    by_cases hk : k = c
    · rw [hk, ur_y, if_pos rfl, if_pos rfl]
    · rw [ur_n hk, if_neg hk, if_neg hk]
      exact q
  · have q := r5 k k0 k1
    rw [z _ (by omega), z _ (by omega)] at q
    rw [y _ (by omega), fq_17 hc ⟨k0, k1⟩] at kt
    have hk : k ≠ c := fun w => by
      rw [if_pos w] at kt
      omega
    rw [if_neg hk] at kt
    show μ 5 k = _
    rw [y _ (by omega), fq_89 hc ⟨k0, k1⟩, if_neg hk]
    exact q kt
  · rw [sc _ (by omega) (by omega) (by omega) (by omega)]
    exact r6 k k0 k1
  · rw [y 10 (by decide), fq_10] at k1
    show ur_ (μ 7) (s 4 % 12) c _ = _
    rw [y 4 (by decide), fq_4, y (281 + k) (by omega), fq_281 hc ⟨k0, by omega⟩]
    by_cases hk : k = 0
    · rw [if_pos hk, show s 4 + 1 - 1 - k = s 4 by omega, ur_y]
    · rw [if_neg hk, ur_n (by omega)]
      have q := r7 (k - 1) (by omega) (by rw [z 10 (by decide)]; omega)
      rw [z 4 (by decide), z _ (by omega)] at q
      rw [← q]
      have e : (s 4 + 1 - 1 - k) % 12 = (s 4 - 1 - (k - 1)) % 12 := by omega
      rw [e]
  · rw [sc 8 (by decide) (by decide) (by decide) (by decide)]
    exact r8
  · rw [sc 8 (by decide) (by decide) (by decide) (by decide)] at k1
    have k1' := k1
    rw [z 8 (by decide)] at k1'
    rw [y _ (by omega), fq_233 hc (by omega), ← z (233 + k) (by omega)]
    exact r9 k k0 k1
  · rw [sc 9 (by decide) (by decide) (by decide) (by decide)]
    exact r10
  · rw [sc 9 (by decide) (by decide) (by decide) (by decide)] at k1
    have k1' := k1
    rw [z 9 (by decide)] at k1'
    rw [y _ (by omega), fq_233 hc (by omega), ← z (257 + k) (by omega)]
    exact r11 k k0 k1
  · rw [sc 0 (by decide) (by decide) (by decide) (by decide)]
    exact r12
  · rw [sc 1 (by decide) (by decide) (by decide) (by decide)]
    exact r13
  · rw [sc 2 (by decide) (by decide) (by decide) (by decide)]
    exact r14
  · rw [sc 3 (by decide) (by decide) (by decide) (by decide)]
    exact r15
  · rw [y 4 (by decide), fq_4]
    rfl
  · rw [sc 5 (by decide) (by decide) (by decide) (by decide)]
    exact r17
  · rw [sc 6 (by decide) (by decide) (by decide) (by decide)]
    exact r18
  · rw [ur_y]
    exact r19.trans ur_y
end SW
