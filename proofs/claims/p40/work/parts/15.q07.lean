/-! what holds is what is held -/
section QS
variable {t : Int} {μ ν : mu_T} {s : Int → Int} {a b c : Int}
theorem sm_eq {g h : Int → Int} : ∀ n : Nat, (∀ c : Int, 0 ≤ c → c < n → g c = h c) → sm_ g n = sm_ h n
  | 0, _ => rfl
  | n + 1, w => by rw [sm_s, sm_s, sm_eq n (fun c a b => w c a (by omega)), w n (by omega) (by omega)]
theorem sm_z {g : Int → Int} : ∀ n : Nat, (∀ c : Int, 0 ≤ c → c < n → g c = 0) → sm_ g n = 0
  | 0, _ => rfl
  | n + 1, w => by rw [sm_s, sm_z n (fun c a b => w c a (by omega)), w n (by omega) (by omega), Int.add_zero]
theorem sm_ct {h : Int → Int} (n : Nat) : ∀ M : Nat, (∀ k : Int, 0 ≤ k → k < M → h k = -15 ∨ (0 ≤ h k ∧ h k < n)) → sm_ (fun c => cn_ (fun k => decide (h k = c)) M) n = cn_ (fun k => decide (h k ≠ -15)) M
  | 0, _ => sm_z n (fun c _ _ => rfl)
  | M + 1, w => by
    have q := sm_ct (h := h) n M (fun k a b => w k a (by omega))
    have e : sm_ (fun c => cn_ (fun k => decide (h k = c)) (M + 1)) n = sm_ (fun c => cn_ (fun k => decide (h k = c)) M) n + sm_ (fun c => if decide (h M = c) = true then 1 else 0) n := sm_add n
    rw [e, sm_one, q, cn_s]
    rcases w M (by omega) (by omega) with z | z
    · rw [if_neg (by omega), if_neg (by rw [decide_eq_false (fun x => x z)]; decide)]
    · rw [if_pos z, if_pos (decide_eq_true (by omega))]
theorem sm_4 {p : Int → Bool} : ∀ n : Nat, sm_ (fun c => cn_ (fun x => p (c * 4 + x)) 4) n = cn_ p (4 * n)
  | 0 => rfl
  | n + 1 => by
    rw [sm_s, sm_4 n]
    have e1 : cn_ p (4 * n + 1) = cn_ p (4 * n) + (if p ((4 * n : Nat) : Int) = true then 1 else 0) := rfl
    have e2 : cn_ p (4 * n + 1 + 1) = cn_ p (4 * n + 1) + (if p ((4 * n + 1 : Nat) : Int) = true then 1 else 0) := rfl
    have e3 : cn_ p (4 * n + 1 + 1 + 1) = cn_ p (4 * n + 1 + 1) + (if p ((4 * n + 1 + 1 : Nat) : Int) = true then 1 else 0) := rfl
    have e4 : cn_ p (4 * n + 1 + 1 + 1 + 1) = cn_ p (4 * n + 1 + 1 + 1) + (if p ((4 * n + 1 + 1 + 1 : Nat) : Int) = true then 1 else 0) := rfl
    have e5 : cn_ (fun x => p ((n : Int) * 4 + x)) 4 = 0 + (if p ((n : Int) * 4 + ((0 : Nat) : Int)) = true then 1 else 0) + (if p ((n : Int) * 4 + ((1 : Nat) : Int)) = true then 1 else 0) + (if p ((n : Int) * 4 + ((2 : Nat) : Int)) = true then 1 else 0) + (if p ((n : Int) * 4 + ((3 : Nat) : Int)) = true then 1 else 0) := rfl
    rw [show 4 * (n + 1) = 4 * n + 1 + 1 + 1 + 1 by omega, e4, e3, e2, e1, e5, show (n : Int) * 4 + ((0 : Nat) : Int) = ((4 * n : Nat) : Int) by omega, show (n : Int) * 4 + ((1 : Nat) : Int) = ((4 * n + 1 : Nat) : Int) by omega, show (n : Int) * 4 + ((2 : Nat) : Int) = ((4 * n + 1 + 1 : Nat) : Int) by omega, show (n : Int) * 4 + ((3 : Nat) : Int) = ((4 * n + 1 + 1 + 1 : Nat) : Int) by omega]
    omega
theorem ho_d (hI : iv_ t s) (hB : iv_B s) : sm_ (fun c => if s (17 + c) = 1 then hd_ s c else 0) 24 = sm_ (fun c => if s (17 + c) = 1 then hl_ s c else 0) 24 + un_ s := by
  have hH := hI.2.2.1
  have hM := hI.2.2.2.2.1
  have e1 : sm_ (fun c => if s (17 + c) = 1 then hd_ s c else 0) 24 = sm_ (fun c => hd_ s c) 24 := sm_eq 24 (fun c c0 c1 => by
    show (if s (17 + c) = 1 then hd_ s c else 0) = hd_ s c
    by_cases w : s (17 + c) = 1
    · rw [if_pos w]
    · rw [if_neg w]
      unfold hd_
      rw [cn_z0 96 (fun k k0 k1 => decide_eq_false (fun z => by
        rcases hH k k0 k1 with q | ⟨q1, q2, q3⟩
        · omega
        · rw [z] at q3
          exact w q3)), cn_z0 6 (fun k k0 k1 => decide_eq_false (fun z => by
        rcases (hM k k0 k1).1 with q | ⟨q1, q2, q3⟩
        · omega
        · rw [z] at q3
          exact w q3))]
      rfl)
  have e2 : sm_ (fun c => if s (17 + c) = 1 then hl_ s c else 0) 24 = sm_ (fun c => cn_ (fun x => decide (s (137 + (c * 4 + x)) ≠ -15)) 4) 24 := sm_eq 24 (fun c c0 c1 => by
    show (if s (17 + c) = 1 then hl_ s c else 0) = hl_ s c
    by_cases w : s (17 + c) = 1
    · rw [if_pos w]
    · rw [if_neg w]
      have w0 : s (17 + c) = 0 := by
        rcases (hI.1 c c0 c1).1 with q | q
        · exact q
        · exact absurd q w
      exact (cn_z0 4 (fun x x0 x1 => decide_eq_false (fun z => z (hB.1 (c * 4 + x) (by omega) (by omega) (by rw [show (c * 4 + x) / 4 = c by omega, w0]))))).symm)
  have e3 : sm_ (fun c => cn_ (fun x => decide (s (137 + (c * 4 + x)) ≠ -15)) 4) 24 = cn_ (fun k => decide (s (137 + k) ≠ -15)) 96 := sm_4 (p := fun k => decide (s (137 + k) ≠ -15)) 24
  have e4 : sm_ (fun c => hd_ s c) 24 = sm_ (fun c => cn_ (fun k => decide (s (137 + k) = c)) 96) 24 + sm_ (fun c => cn_ (fun k => decide (s (11 + k) = c)) 6) 24 := sm_add 24
  have e5 := sm_ct (h := fun k => s (137 + k)) 24 96 (fun k k0 k1 => ft_or (hH k k0 k1))
  have e6 := sm_ct (h := fun k => s (11 + k)) 24 6 (fun k k0 k1 => ft_or (hM k k0 k1).1)
  rw [e1, e2, e3, e4]
  unfold un_
  rw [show cn_ (fun k => decide (s (137 + k) ≠ -15)) 96 = _ from e5.symm, show cn_ (fun k => decide (s (11 + k) ≠ -15)) 6 = _ from e6.symm]
theorem fp_g : ∀ a : Nat, a < 25 → ∀ b : Nat, b < 25 → 0 < b → Op.cmpValue (FP.fcmp (FP.fdiv (FP.i2f (iI (a : Int))) (FP.i2f (iI (b : Int)))) (FP.fdiv (FP.i2f (iI (a : Int))) (FP.i2f (iI (b : Int))))) .l = iI 0 := by decide +kernel
theorem fp_g0 : Op.cmpValue (FP.fcmp FP.fconst0 FP.fconst0) .l = iI 0 := by decide +kernel
theorem fp_d0 : Op.cmpValue (FP.dcmp FP.dconst0 FP.dconst0) .l = iI 0 := by decide +kernel
theorem l_33n (hr : hr_ μ s) (hI : iv_ t s) {J : Int → Option (Int × mu_T)} : ∀ (n i : Nat), i + n = 6 → ∀ f : Nat, n < f → f_L_isWhole_o132_L33 J μ f (cn_ (fun k => decide (s (11 + k) ≠ -15)) i) i = J (un_ s) := by
  intro n
  induction n with
  | zero =>
    intro i hi f hf
    obtain ⟨f', rfl⟩ : ∃ f', f = f' + 1 := ⟨f - 1, by omega⟩
    have e : i = 6 := by omega
    subst e
    rw [f_L_isWhole_o132_L33, lt_n (by decide) (by decide) (by decide)]
    rfl
  | succ n ih =>
    intro i hi f hf
    obtain ⟨f', rfl⟩ : ∃ f', f = f' + 1 := ⟨f - 1, by omega⟩
    have q := ih (i + 1) (by omega) f' (by omega)
    rw [f_L_isWhole_o132_L33, lt_y (by omega) (by decide) (by omega), v_named hr ⟨by omega, by omega⟩, bd_some, jn_v (v := if s (11 + (i : Int)) = -15 then 0 else 1) (fun J => ?g1)]
    case g1 => exact eq_01 (iv_g6 hI i (by omega) (by omega)) (by decide) J
    rw [nm_q, nm_q]
    have e : cn_ (fun k => decide (s (11 + k) ≠ -15)) i + (if s (11 + (i : Int)) = -15 then 0 else 1) = cn_ (fun k => decide (s (11 + k) ≠ -15)) (i + 1) := by
      rw [cn_s]
      by_cases z : s (11 + (i : Int)) = -15
      · rw [if_pos z, if_neg (by rw [decide_eq_false (fun x => x z)]; decide)]
      · rw [if_neg z, if_pos (decide_eq_true z)]
    rw [e]
    exact q
end QS
