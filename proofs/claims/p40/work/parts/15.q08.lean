/-! the object is whole -/
section QW
variable {t : Int} {μ ν : mu_T} {s : Int → Int} {a b c : Int}
theorem mm_q {α : Type} {m : mu_T} {f : mu_T → Option α} : mm_ m f = f m := rfl
theorem c_70 {P : Option (Int × mu_T) → Prop} {F : Int → Int → Int → Int → mu_T → Option (Int × mu_T)} {y : Int} (hr : hr_ μ s) (hI : iv_ t s) (hB : iv_B s) (hy : mk_ y (lv9 s)) (h0 : μ 151 = fun _ => 0) (h : ∀ x1 x2 x3 x5 μ', ac9_ s 24 x1 x2 x3 x5 μ' → (∀ q, q ≠ 151 → μ' q = μ q) → P (F x1 x2 x3 x5 μ')) : P (jn_ F (fun J => f_L_isWhole_o132_L70 J y (s 0) 20000 0 0 0 0 0 μ)) := by
  obtain ⟨F1, hF, hF2⟩ := F_big
  obtain ⟨x1, x2, x3, x5, μ', k1, k2, k3⟩ := l_70 (J := F) hI hB hy 24 0 (by decide) F1 (by omega) 0 0 0 0 μ hr ⟨rfl, rfl, rfl, mk_0, fun j _ _ => by
    rw [h0]
    rfl⟩
  have e : jn_ F (fun J => f_L_isWhole_o132_L70 J y (s 0) 20000 0 0 0 0 0 μ) = F x1 x2 x3 x5 μ' := by
    rw [← hF2]
    exact k1
  rw [e]
  exact h x1 x2 x3 x5 μ' k2 k3
theorem c_550 {P : Option (Int × mu_T) → Prop} {F : mu_T → Option (Int × mu_T)} (hr : hr_ μ s) (hI : iv_ t s) (h : ∀ μ', (∀ q, q ≠ 137 → μ' q = μ q) → P (F μ')) : P (jn_ F (fun J => f_L_isWhole_o132_L550 J (nu_ s) 20000 1 μ)) := by
  obtain ⟨F1, hF, hF2⟩ := F_big
  have hb := nu_b (s := s)
  obtain ⟨μ', k1, k2⟩ := l_550 (J := F) hI 30 1 (by decide) (by decide) (by omega) F1 (by omega) μ hr
  have e : jn_ F (fun J => f_L_isWhole_o132_L550 J (nu_ s) 20000 1 μ) = F μ' := by
    rw [← hF2]
    exact k1
  rw [e]
  exact h μ' k2
theorem L_whole (hr : hr_ μ s) (hI : iv_ t s) (hB : iv_B s) : ∃ μ2 : mu_T, f_L_isWhole_o132 μ = some (1, μ2) ∧ ∀ q, q ≠ 137 → q ≠ 151 → μ2 q = μ q := by
  obtain ⟨F1, hF, hF2⟩ := F_big
  obtain ⟨y, e1, e2⟩ := v_live hr hI
  generalize hm26 : um_ μ 151 (fun _ => 0) = μ26
  have k26 : ∀ q, q ≠ 151 → μ26 q = μ q := fun q hq => by rw [← hm26, um_ne hq]
  have hr26 : hr_ μ26 s := hr_x (fun j hj => k26 j (by omega)) hr
  have z26 : μ26 151 = fun _ => 0 := by rw [← hm26, um_self]
  have g33 : ∀ J : Int → Option (Int × mu_T), f_L_isWhole_o132_L33 J μ26 20000 0 0 = J (un_ s) := fun J => by
    rw [← hF2]
    exact l_33n hr26 hI 6 0 (by decide) F1 (by omega)
  unfold f_L_isWhole_o132
  rw [e1, bd_some, v_account (a := 1) hr hI (by decide), bd_some, mm_q, hm26, jn_v g33]
  refine c_70 (P := fun o => ∃ μ2 : mu_T, o = some (1, μ2) ∧ ∀ q, q ≠ 137 → q ≠ 151 → μ2 q = μ q) hr26 hI hB e2 z26 (fun x1 x2 x3 x5 μ5 hA k5 => ?_)
  obtain ⟨a1, a2, a3, a4, a5⟩ := hA
  have a1' : x1 = nu_ s := a1
  subst a1'
  have hr5 : hr_ μ5 s := hr_x (fun j hj => k5 j (by omega)) hr26
  refine c_550 (P := fun o => ∃ μ2 : mu_T, o = some (1, μ2) ∧ ∀ q, q ≠ 137 → q ≠ 151 → μ2 q = μ q) hr5 hI (fun κ kk => ?_)
  have hrk : hr_ κ s := hr_x (fun j hj => kk j (by omega)) hr5
  have kc : ∀ j : Int, 0 ≤ j → j ≤ 2 → κ 151 j = co_ s j := fun j j0 j1 => by
    rw [kk 151 (by decide)]
    exact a5 j j0 j1
  have k0 := kc 0 (by decide) (by decide)
  have k1 := kc 1 (by decide) (by decide)
  have k2 := kc 2 (by decide) (by decide)
  have hb := nu_b (s := s)
  have hC := hI.2.2.2.2.2.2.2.2
  have hG := hI.2.2.2.2.2.2.1
  have hD := hI.2.2.2.2.2.1
  have h8 : s 8 = co_ s 1 := hG.1.2.trans (cn_eq 24 (fun c c0 c1 => by
    have q := hI.1 c c0 c1
    show decide (s (41 + c) = 1) = decide (s (17 + c) = 1 ∧ s (41 + c) = 1)
    by_cases w : s (41 + c) = 1
    · rw [decide_eq_true w, decide_eq_true ⟨by
        rcases q.1 with z | z
        · have := (q.2.2.2 z).1
          omega
        · exact z, w⟩]
    · rw [decide_eq_false w, decide_eq_false (fun z => w z.2)]))
  have c1b : 0 ≤ co_ s 1 ∧ co_ s 1 ≤ 24 := ⟨cn_0 _ _, cn_le _ _⟩
  have d9b : s 9 ≤ 24 := by
    rw [hD.1.2]
    exact cn_le _ _
  have d90 := hD.1.1
  have g1 : vg_ s (co_ s 1) = -11 := if_neg (by omega)
  have v9 : va_9 s 9 = s 9 := rfl
  have g2 : vd_ s (s 9) = -11 := if_neg (by omega)
  have hall : mk_ x5 (fun k => decide (s (17 + k) = 1)) := mk_e (fun k k0 k1 => ex_one k0 k1) a4
  have x2e : x2 = sh_2 s := a2
  obtain ⟨y2, w1, w2⟩ := v_liveAgain hrk hI
  obtain ⟨y3, w3, w4⟩ := v_wouldFree hrk hI
  obtain ⟨r, κ2, r1, r2, r3⟩ := v_ranked (a := nu_ s) hrk hI ⟨by omega, by omega⟩
  have r4 : r = -11 := by
    rcases r3 with ⟨u, q⟩ | ⟨q, -⟩
    · have := rk_many hI.1 u
      omega
    · exact q
  have lz : an_ y (xo_ x5 (-1)) = 0 := (mk_z (mk_no e2 hall)).mpr (fun k k0 k1 => by
    show (lv9 s k && !decide (s (17 + k) = 1)) = false
    by_cases w : lv9 s k = true
    · rw [decide_eq_true (lv_in hI hB ⟨k0, k1⟩ w).1]
      exact Bool.and_false _
    · rw [Bool.eq_false_iff.mpr w]
      rfl)
  have fz : an_ y3 (or_ y (xo_ x5 (-1))) = 0 := bt_x (iI_rg _) (by decide) (fun i hi => by
    rw [bt_an, bt_or, bt_xo, bt_m i hi, e2.2 i hi, hall.2 i hi, w4.2 i hi, bt_z i hi]
    show (decide (i < 24) && (decide (s (17 + i) = 1) && !kp9 s i) && (decide (i < 24) && lv9 s i || (decide (i < 24) && decide (s (17 + i) = 1)) ^^ true)) = false
    by_cases w : i < 24
    · by_cases w2 : lv9 s i = true
      · rw [lv_kp ⟨by omega, by omega⟩ w2, Bool.not_true, Bool.and_false, Bool.and_false, Bool.false_and]
      · rw [Bool.eq_false_iff.mpr w2, decide_eq_true w]
        generalize decide (s (17 + (i : Int)) = 1) = u
        generalize kp9 s i = v
        cases u <;> cases v <;> rfl
    · rw [decide_eq_false w]
      rfl)
  have grg : rg_ (κ 151 1) := ⟨by omega, by omega⟩
  rw [v_account (a := 3) hrk hI (by decide), bd_some, eq_y (show va_9 s 3 = nu_ s from rfl)]
  rw [v_account (a := 4) hrk hI (by decide), bd_some, rd_e (by decide) (by decide), eq_y (show va_9 s 4 = κ 151 0 from k0.symm)]
  rw [v_account (a := 5) hrk hI (by decide), bd_some, rd_e (by decide) (by decide), eq_y (show va_9 s 5 = κ 151 1 from k1.symm)]
  rw [v_account (a := 6) hrk hI (by decide), bd_some, rd_e (by decide) (by decide), eq_y (show va_9 s 6 = κ 151 2 from k2.symm)]
  rw [v_account (a := 7) hrk hI (by decide), bd_some, v_account (a := 8) hrk hI (by decide), bd_some, eq_y (show va_9 s 7 = nu_ s + va_9 s 8 from hC.1)]
  rw [v_account (a := 12) hrk hI (by decide), bd_some, eq_y (show va_9 s 12 = un_ s from rfl)]
  rw [eq_y (show x2 = x3 + un_ s by rw [a2, a3, ho_d hI hB])]
  rw [rd_e (by decide) (by decide), v_grey hrk hI grg, bd_some, eq_y (show vg_ s (κ 151 1) = -11 by rw [k1, g1])]
  rw [rd_e (by decide) (by decide), jn_v (v := ()) (fun J => ?h1)]
  case h1 =>
    by_cases w : κ 151 1 = 0
    · rw [eq_y w]
    · have hg := hG.2.1 (co_ s 1 - 1) (by omega) (by omega)
      rw [eq_n grg (by decide) w, rd_e (by decide) (by decide), v_grey hrk hI ⟨by omega, by omega⟩, bd_some, k1, show vg_ s (co_ s 1 - 1) = s (233 + (co_ s 1 - 1)) from if_pos (by omega), lt_n ⟨by omega, by omega⟩ (by decide) (by omega)]
  rw [v_account (a := 9) hrk hI (by decide), bd_some, v9, v_due hrk hI ⟨by omega, by omega⟩, bd_some, eq_y g2]
  have hs := sh_b (s := s)
  have hc0 := cn_0 (lv9 s) 24
  have hc1 := cn_le (lv9 s) 24
  rw [jn_v (v := if nu_ s = 0 then FP.dconst0 else FP.ddiv (FP.i2d (iI (sh_2 s))) (FP.i2d (iI (nu_ s)))) (fun J => ?h2)]
  case h2 =>
    by_cases h0 : nu_ s = 0
    · rw [eq_y h0, if_pos h0]
    · obtain ⟨f1, f2⟩ := fp_d (sh_2 s).toNat (by omega) (nu_ s).toNat (by omega) (by omega)
      rw [Int.toNat_of_nonneg hs.1, Int.toNat_of_nonneg hb.1] at f1 f2
      rw [eq_n ⟨by omega, by omega⟩ (by decide) h0, if_neg h0, x2e]
      unfold dd_
      rw [if_pos f1]
  rw [jn_v (v := if nu_ s = 0 then FP.fconst0 else FP.fdiv (FP.i2f (iI (cn_ (lv9 s) 24))) (FP.i2f (iI (nu_ s)))) (fun J => ?h3)]
  case h3 =>
    by_cases h0 : nu_ s = 0
    · rw [eq_y h0, if_pos h0]
    · obtain ⟨f1, f2, f3⟩ := fp_f (cn_ (lv9 s) 24).toNat (by omega) (nu_ s).toNat (by omega) (by omega)
      rw [Int.toNat_of_nonneg hc0, Int.toNat_of_nonneg hb.1] at f1 f2 f3
      rw [eq_n ⟨by omega, by omega⟩ (by decide) h0, if_neg h0, v_bits e2, bd_some]
      unfold fd_
      rw [if_pos f1]
  rw [eq_n (by decide) (by decide) (by decide), w1, bd_some, eq_y (mk_eq e2 w2 (fun _ _ _ => rfl)), eq_y lz, w3, bd_some, eq_y fz, v_isBalanced hrk hI hB, bd_some, eq_y rfl, v_meanHeld hrk hI, bd_some]
  have dd : ∀ (x : Option (Int × mu_T)), dc_ (if nu_ s = 0 then FP.dconst0 else FP.ddiv (FP.i2d (iI (sh_2 s))) (FP.i2d (iI (nu_ s)))) (if nu_ s = 0 then FP.dconst0 else FP.ddiv (FP.i2d (iI (sh_2 s))) (FP.i2d (iI (nu_ s)))) x = x := fun x => by
    unfold dc_
    by_cases h0 : nu_ s = 0
    · rw [if_pos h0, if_pos fp_d0]
    · obtain ⟨f1, f2⟩ := fp_d (sh_2 s).toNat (by omega) (nu_ s).toNat (by omega) (by omega)
      rw [Int.toNat_of_nonneg hs.1, Int.toNat_of_nonneg hb.1] at f1 f2
      rw [if_neg h0, if_pos f2]
  have ff : ∀ (x : Option (Int × mu_T)), fc_ (if nu_ s = 0 then FP.fconst0 else FP.fdiv (FP.i2f (iI (cn_ (lv9 s) 24))) (FP.i2f (iI (nu_ s)))) (if nu_ s = 0 then FP.fconst0 else FP.fdiv (FP.i2f (iI (cn_ (lv9 s) 24))) (FP.i2f (iI (nu_ s)))) x = x := fun x => by
    unfold fc_
    by_cases h0 : nu_ s = 0
    · rw [if_pos h0, if_pos fp_g0]
    · have f2 := fp_g (cn_ (lv9 s) 24).toNat (by omega) (nu_ s).toNat (by omega) (by omega)
      rw [Int.toNat_of_nonneg hc0, Int.toNat_of_nonneg hb.1] at f2
      rw [if_neg h0, if_pos f2]
  rw [dd, eq_y rfl, v_liveShare hrk hI, bd_some, ff, eq_y rfl, r1, be_some, eq_y r4]
  refine ⟨_, rfl, fun q h7 h1 => ?_⟩
  rw [um_ne h1, r2 q h7, kk q h7, k5 q h1, k26 q h1]
theorem L_isWhole {t : Nat} (hR : RR_ t μ ν) (hB : iv_B (ν 1)) : ∃ μ2 : mu_T, f_L_isWhole_o132 μ = some (1, μ2) ∧ RR_ t μ2 ν ∧ ∀ q, q ≠ 137 → q ≠ 151 → μ2 q = μ q := by
  obtain ⟨μ2, h1, h2⟩ := L_whole (μ := μ) hR.1.1 hR.1.2 hB
  exact ⟨μ2, h1, RR_e hR (fun q q1 q2 => h2 q q2 (by omega)), h2⟩
end QW
