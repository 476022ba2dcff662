/-! how many can be come to -/
section PC
theorem bt_n {a : Nat} (ha : a < 2147483648) (j : Nat) : bt_ (a : Int) j = a.testBit j := by
  show (BitVec.ofInt 32 (a : Int)).getLsbD j = _
  rw [BitVec.ofInt_natCast, BitVec.getLsbD_ofNat]
  by_cases hj : j < 32
  · rw [decide_eq_true hj, Bool.true_and]
  · rw [decide_eq_false hj, Bool.false_and]
    refine (Nat.testBit_lt_two_pow (Nat.lt_of_lt_of_le ha ?_)).symm
    exact Nat.le_trans (show 2147483648 ≤ 2 ^ 32 by decide) (Nat.pow_le_pow_right (by decide) (by omega))
theorem an_n {a b : Nat} (ha : a < 2147483648) (hb : b < 2147483648) : an_ (a : Int) (b : Int) = ((a &&& b : Nat) : Int) := by
  have hl : a &&& b ≤ a := Nat.and_le_left
  refine bt_x (iI_rg _) ⟨by omega, by omega⟩ (fun i hi => ?_)
  rw [bt_an, bt_n ha, bt_n hb, bt_n (by omega), Nat.testBit_and]
theorem s_u9 : ∀ n : Nat, n < 32 → (((iI (n : Int)).toUInt32 &&& Int32.toUInt32 31).toBitVec % 32).toNat = n := by decide +kernel
theorem bt_su (n : Nat) (hn : n < 32) {x : Int} {i : Nat} : bt_ (su_ x (n : Int)) i = bt_ x (n + i) := by
  unfold bt_ su_
  rw [iI_of]
  show ((iI x).toUInt32 >>> ((iI (n : Int)).toUInt32 &&& Int32.toUInt32 31)).toBitVec.getLsbD i = (iI x).toUInt32.toBitVec.getLsbD (n + i)
  rw [UInt32.toBitVec_shiftRight]
  show ((iI x).toUInt32.toBitVec >>> (((iI (n : Int)).toUInt32 &&& Int32.toUInt32 31).toBitVec % 32).toNat).getLsbD i = _
  rw [s_u9 n hn, BitVec.getLsbD_ushiftRight]
theorem rg_nat {z a : Nat} (h : z ≤ a) (ha : a < 2147483648) : rg_ (z : Int) := ⟨by omega, by omega⟩
theorem su_n {a n : Nat} (hn : n < 32) (ha : a < 2147483648) : su_ (a : Int) (n : Int) = ((a / 2 ^ n : Nat) : Int) := by
  have hl : a / 2 ^ n ≤ a := Nat.div_le_self _ _
  refine bt_x (iI_rg _) (rg_nat hl ha) (fun i hi => ?_)
  rw [bt_su n hn, bt_n ha, bt_n (Nat.lt_of_le_of_lt hl ha), ← Nat.shiftRight_eq_div_pow, Nat.testBit_shiftRight]
theorem s_l9 : ∀ n : Nat, n < 32 → ((iI (n : Int) &&& 31).toBitVec.smod 32).toNat = n := by decide +kernel
theorem bt_sr (n : Nat) (hn : n < 32) {x : Int} {i : Nat} (hi : i < 32) : bt_ (sr_ x (n : Int)) i = if n + i < 32 then bt_ x (n + i) else bt_ x 31 := by
  unfold bt_ sr_
  rw [iI_of, Int32.toBitVec_shiftRight]
  show ((iI x).toBitVec.sshiftRight ((iI (n : Int) &&& 31).toBitVec.smod 32).toNat).getLsbD i = _
  rw [s_l9 n hn, BitVec.getLsbD_sshiftRight, BitVec.msb_eq_getLsbD_last]
  simp [hi]
theorem bt_1 : ∀ i, i < 32 → bt_ 1 i = decide (i = 0) := by decide +kernel
theorem sr_1 {x : Int} {n : Nat} (hn : n < 32) : an_ (sr_ x (n : Int)) 1 = if bt_ x n = true then 1 else 0 := by
  by_cases h : bt_ x n = true
  · rw [if_pos h]
    refine bt_x (iI_rg _) (by decide) (fun i hi => ?_)
    rw [bt_an, bt_1 i hi, bt_sr n hn hi]
    by_cases h0 : i = 0
    · rw [h0, if_pos (by omega), Nat.add_zero, h]
      rfl
    · rw [decide_eq_false h0, Bool.and_false]
  · rw [if_neg h]
    refine bt_x (iI_rg _) (by decide) (fun i hi => ?_)
    rw [bt_an, bt_1 i hi, bt_sr n hn hi, bt_z i hi]
    by_cases h0 : i = 0
    · rw [h0, if_pos (by omega), Nat.add_zero, Bool.eq_false_iff.mpr h]
      rfl
    · rw [decide_eq_false h0, Bool.and_false]
theorem mk_n {x : Int} {p : Int → Bool} (hx : mk_ x p) : ∃ Y : Nat, x = (Y : Int) ∧ Y < 16777216 ∧ ∀ i : Nat, i < 24 → Y.testBit i = p i := by
  have hb : ∀ i : Nat, (iI x).toBitVec.toNat.testBit i = bt_ x i := fun i => BitVec.testBit_toNat _
  have hl : (iI x).toBitVec.toNat < 2 ^ 24 := by
    refine Nat.lt_pow_two_of_testBit _ (fun i hi => ?_)
    rw [hb]
    by_cases h : i < 32
    · rw [hx.2 i h, decide_eq_false (by omega), Bool.false_and]
    · exact BitVec.getLsbD_of_ge _ _ (by omega)
  have hl2 : (iI x).toBitVec.toNat < 16777216 := hl
  refine ⟨(iI x).toBitVec.toNat, ?_, hl2, fun i hi => ?_⟩
  · refine bt_x hx.1 ⟨by omega, by omega⟩ (fun i hi => ?_)
    rw [bt_n (by omega), hb]
  · rw [hb, hx.2 i (by omega), decide_eq_true hi, Bool.true_and]
-- bytes
theorem by_1 : ∀ a, a < 256 → ∀ u, u < 2 → (a / 2 + 128 * u) &&& 85 = (a / 2) &&& 85 := by decide +kernel
theorem by_1c : ∀ a, a < 256 → (a / 2) &&& 21845 = (a / 2) &&& 85 := by decide +kernel
theorem by_2 : ∀ a, a < 256 → ∀ u, u < 4 → (a / 4 + 64 * u) &&& 51 = (a / 4) &&& 51 := by decide +kernel
theorem by_2c : ∀ a, a < 256 → a &&& 13107 = a &&& 51 ∧ (a / 4) &&& 13107 = (a / 4) &&& 51 := by decide +kernel
def bf_ (a : Nat) : Nat := a - ((a / 2) &&& 85)
def bg_ (a : Nat) : Nat := (a &&& 51) + ((a / 4) &&& 51)
def bs_ (Y : Nat) : Nat → Nat
  | 0 => 0
  | n + 1 => bs_ Y n + Y / 2 ^ n % 2
theorem by_3 : ∀ a, a < 256 → bg_ (bf_ a) % 16 ≤ 6 ∧ bg_ (bf_ a) ≤ 102 ∧ (bg_ (bf_ a) + bg_ (bf_ a) / 16) % 16 = bs_ a 8 ∧ bs_ a 8 ≤ 8 := by decide +kernel
theorem sp_and {X m a b c : Nat} (ha : X % 256 = a) (hb : X / 256 % 256 = b) (hc : X / 65536 = c) : X &&& m = (a &&& m % 256) + 256 * (b &&& m / 256 % 256) + 65536 * (c &&& m / 65536) := by
  have e1 : (X &&& m) % 256 = a &&& m % 256 := by
    have q := Nat.and_mod_two_pow (a := X) (b := m) (n := 8)
    rw [show 2 ^ 8 = 256 from rfl, ha] at q
    exact q
  have e2 : (X &&& m) / 256 % 256 = b &&& m / 256 % 256 := by
    have q := Nat.and_div_two_pow (a := X) (b := m) (n := 8)
    have q2 := Nat.and_mod_two_pow (a := X / 256) (b := m / 256) (n := 8)
    rw [show 2 ^ 8 = 256 from rfl] at q q2
    rw [q, q2, hb]
  have e3 : (X &&& m) / 65536 = c &&& m / 65536 := by
    have q := Nat.and_div_two_pow (a := X) (b := m) (n := 16)
    rw [show 2 ^ 16 = 65536 from rfl, hc] at q
    exact q
  generalize X &&& m = z at e1 e2 e3
  omega
theorem pop_1 {Y a b c : Nat} (ha : Y % 256 = a) (hb : Y / 256 % 256 = b) (hc : Y / 65536 = c) (hl : c < 256) : Y - (Y / 2 &&& 1431655765) = bf_ a + 256 * bf_ b + 65536 * bf_ c ∧ (Y / 2 &&& 1431655765) ≤ Y := by
  have q := sp_and (X := Y / 2) (m := 1431655765) (a := a / 2 + 128 * (b % 2)) (b := b / 2 + 128 * (c % 2)) (c := c / 2) (by omega) (by omega) (by omega)
  have q2 : Y / 2 &&& 1431655765 = (a / 2 + 128 * (b % 2) &&& 85) + 256 * (b / 2 + 128 * (c % 2) &&& 85) + 65536 * (c / 2 &&& 21845) := q
  rw [by_1 a (by omega) _ (by omega), by_1 b (by omega) _ (by omega), by_1c c (by omega)] at q2
  have la : (a / 2 &&& 85) ≤ a / 2 := Nat.and_le_left
  have lb : (b / 2 &&& 85) ≤ b / 2 := Nat.and_le_left
  have lc : (c / 2 &&& 85) ≤ c / 2 := Nat.and_le_left
  unfold bf_
  rw [q2]
  omega
theorem pop_2 {X a b c : Nat} (hX : X = a + 256 * b + 65536 * c) (ha : a < 256) (hb : b < 256) (hc : c < 256) : (X &&& 858993459) + (X / 4 &&& 858993459) = bg_ a + 256 * bg_ b + 65536 * bg_ c := by
  have q : X &&& 858993459 = (a &&& 51) + 256 * (b &&& 51) + 65536 * (c &&& 13107) := sp_and (X := X) (m := 858993459) (by omega) (by omega) (by omega)
  have q2 : X / 4 &&& 858993459 = (a / 4 + 64 * (b % 4) &&& 51) + 256 * (b / 4 + 64 * (c % 4) &&& 51) + 65536 * (c / 4 &&& 13107) := sp_and (X := X / 4) (m := 858993459) (by omega) (by omega) (by omega)
  rw [by_2 a ha _ (by omega), by_2 b hb _ (by omega), (by_2c c hc).2] at q2
  rw [(by_2c c hc).1] at q
  unfold bg_
  rw [q, q2]
  omega
theorem sp_mk {X A B C : Nat} (hX : X = A + 256 * B + 65536 * C) (hA : A < 256) (hB : B < 256) : X % 256 = A ∧ X / 256 % 256 = B ∧ X / 65536 = C := by omega
theorem pop_3 {Z a b c : Nat} (hZ : Z = a + 256 * b + 65536 * c) (ha : a % 16 ≤ 6 ∧ a ≤ 102) (hb : b % 16 ≤ 6 ∧ b ≤ 102) (hc : c % 16 ≤ 6 ∧ c ≤ 102) : (Z + Z / 16) &&& 252645135 = (a + a / 16) % 16 + 256 * ((b + b / 16) % 16) + 65536 * ((c + c / 16) % 16) := by
  have m15 : ∀ z : Nat, z &&& 15 = z % 16 := fun z => Nat.and_two_pow_sub_one_eq_mod z 4
  have hc2 : ∀ z, z < 256 → z &&& 3855 = z &&& 15 := by decide +kernel
  have h16 : Z / 16 = a / 16 + 16 * b + 4096 * c := by omega
  have hX : Z + Z / 16 = (a + a / 16 + 16 * (b % 16)) + 256 * (b + b / 16 + 16 * (c % 16)) + 65536 * (c + c / 16) := by omega
  have lA : a + a / 16 + 16 * (b % 16) < 256 := by omega
  have lB : b + b / 16 + 16 * (c % 16) < 256 := by omega
  have lC : c + c / 16 < 256 := by omega
  obtain ⟨z1, z2, z3⟩ := sp_mk hX lA lB
  have q : (Z + Z / 16) &&& 252645135 = ((a + a / 16 + 16 * (b % 16)) &&& 15) + 256 * ((b + b / 16 + 16 * (c % 16)) &&& 15) + 65536 * ((c + c / 16) &&& 3855) := sp_and (X := Z + Z / 16) (m := 252645135) z1 z2 z3
  rw [hc2 _ lC, m15, m15, m15] at q
  rw [q, show (a + a / 16 + 16 * (b % 16)) % 16 = (a + a / 16) % 16 by omega, show (b + b / 16 + 16 * (c % 16)) % 16 = (b + b / 16) % 16 by omega]
theorem pop_4 {K p q r : Nat} (h : K = p + 256 * q + 65536 * r) (hp : p ≤ 8) (hq : q ≤ 8) (hr : r ≤ 8) : (K + K / 256 + (K + K / 256) / 65536) % 64 = p + q + r := by
  have e1 : K / 256 = q + 256 * r := by omega
  have e2 : K + K / 256 = (p + q) + 256 * (q + r) + 65536 * r := by omega
  have e3 : (K + K / 256) / 65536 = r := by omega
  rw [e3, e2]
  omega
theorem bs_s {Y n : Nat} : bs_ Y (n + 1) = bs_ Y n + Y / 2 ^ n % 2 := rfl
theorem bs_8 {Y : Nat} : bs_ Y 8 = bs_ (Y % 256) 8 := by
  have e : ∀ Y : Nat, bs_ Y 8 = 0 + Y / 1 % 2 + Y / 2 % 2 + Y / 4 % 2 + Y / 8 % 2 + Y / 16 % 2 + Y / 32 % 2 + Y / 64 % 2 + Y / 128 % 2 := fun Y => rfl
  rw [e, e, show Y % 256 / 1 % 2 = Y / 1 % 2 by omega, show Y % 256 / 2 % 2 = Y / 2 % 2 by omega, show Y % 256 / 4 % 2 = Y / 4 % 2 by omega, show Y % 256 / 8 % 2 = Y / 8 % 2 by omega, show Y % 256 / 16 % 2 = Y / 16 % 2 by omega, show Y % 256 / 32 % 2 = Y / 32 % 2 by omega, show Y % 256 / 64 % 2 = Y / 64 % 2 by omega, show Y % 256 / 128 % 2 = Y / 128 % 2 by omega]
theorem bs_a {Y : Nat} : ∀ n : Nat, bs_ Y (8 + n) = bs_ Y 8 + bs_ (Y / 256) n
  | 0 => rfl
  | n + 1 => by
    have e : Y / 2 ^ (8 + n) = Y / 256 / 2 ^ n := by
      rw [Nat.pow_add, Nat.div_div_eq_div_mul]
    show bs_ Y (8 + n) + Y / 2 ^ (8 + n) % 2 = bs_ Y 8 + (bs_ (Y / 256) n + Y / 256 / 2 ^ n % 2)
    rw [bs_a n, e, Nat.add_assoc]
theorem bs_24 {Y a b c : Nat} (ha : Y % 256 = a) (hb : Y / 256 % 256 = b) (hc : Y / 65536 = c) : bs_ Y 24 = bs_ a 8 + bs_ b 8 + bs_ c 8 := by
  have e1 : bs_ Y 24 = bs_ Y 8 + bs_ (Y / 256) 16 := bs_a 16
  have e2 : bs_ (Y / 256) 16 = bs_ (Y / 256) 8 + bs_ (Y / 256 / 256) 8 := bs_a 8
  rw [e1, e2, bs_8, ha, bs_8 (Y := Y / 256), hb, Nat.div_div_eq_div_mul, hc, Nat.add_assoc]
theorem e_bits {μ : mu_T} {Y : Nat} (hY : Y < 16777216) : f_J6_bitCount_0f7a4 μ (Y : Int) = some (bs_ Y 24 : Int) := by
  obtain ⟨f1, f2⟩ := pop_1 (Y := Y) rfl rfl rfl (by omega)
  obtain ⟨a1, a2, a3, a4⟩ := by_3 (Y % 256) (by omega)
  obtain ⟨b1, b2, b3, b4⟩ := by_3 (Y / 256 % 256) (by omega)
  obtain ⟨c1, c2, c3, c4⟩ := by_3 (Y / 65536) (by omega)
  have hlt : ∀ a, a < 256 → bf_ a < 256 := fun a ha => by
    unfold bf_
    omega
  have g1 := pop_2 (X := Y - (Y / 2 &&& 1431655765)) f1 (hlt _ (by omega)) (hlt _ (by omega)) (hlt _ (by omega))
  have h1 := pop_3 g1 ⟨a1, a2⟩ ⟨b1, b2⟩ ⟨c1, c2⟩
  rw [a3, b3, c3] at h1
  have hs := bs_24 (Y := Y) rfl rfl rfl
  have l1 : (Y / 2 &&& 1431655765) ≤ 1431655765 := Nat.and_le_right
  unfold f_J6_bitCount_0f7a4
  simp only [nm_q]
  have s1 : su_ (Y : Int) 1 = ((Y / 2 : Nat) : Int) := su_n (n := 1) (by decide) (by omega)
  have t1 : an_ ((Y / 2 : Nat) : Int) 1431655765 = ((Y / 2 &&& 1431655765 : Nat) : Int) := an_n (b := 1431655765) (by omega) (by decide)
  rw [s1, t1]
  generalize hN : Y - (Y / 2 &&& 1431655765) = N at g1 h1 f1
  have hNl : N < 16777216 := by omega
  have e1 : (Y : Int) - ((Y / 2 &&& 1431655765 : Nat) : Int) = (N : Int) := by omega
  have s2 : su_ (N : Int) 2 = ((N / 4 : Nat) : Int) := su_n (n := 2) (by decide) (by omega)
  have t2 : an_ (N : Int) 858993459 = ((N &&& 858993459 : Nat) : Int) := an_n (b := 858993459) (by omega) (by decide)
  have t3 : an_ ((N / 4 : Nat) : Int) 858993459 = ((N / 4 &&& 858993459 : Nat) : Int) := an_n (b := 858993459) (by omega) (by decide)
  rw [e1, s2, t2, t3]
  generalize hM : (N &&& 858993459) + (N / 4 &&& 858993459) = M at g1 h1
  have e2 : ((N &&& 858993459 : Nat) : Int) + ((N / 4 &&& 858993459 : Nat) : Int) = (M : Int) := by omega
  have hMl : M < 16777216 := by omega
  have s3 : su_ (M : Int) 4 = ((M / 16 : Nat) : Int) := su_n (n := 4) (by decide) (by omega)
  rw [e2, s3]
  have e3 : (M : Int) + ((M / 16 : Nat) : Int) = ((M + M / 16 : Nat) : Int) := by omega
  have t4 : an_ ((M + M / 16 : Nat) : Int) 252645135 = ((M + M / 16 &&& 252645135 : Nat) : Int) := an_n (b := 252645135) (by omega) (by decide)
  rw [e3, t4]
  generalize hK : (M + M / 16 &&& 252645135) = K at h1
  have hKl : K < 16777216 := by omega
  have s4 : su_ (K : Int) 8 = ((K / 256 : Nat) : Int) := su_n (n := 8) (by decide) (by omega)
  rw [s4]
  have e4 : (K : Int) + ((K / 256 : Nat) : Int) = ((K + K / 256 : Nat) : Int) := by omega
  rw [e4]
  have s5 : su_ ((K + K / 256 : Nat) : Int) 16 = (((K + K / 256) / 65536 : Nat) : Int) := su_n (n := 16) (by decide) (by omega)
  rw [s5]
  have e5 : ((K + K / 256 : Nat) : Int) + (((K + K / 256) / 65536 : Nat) : Int) = ((K + K / 256 + (K + K / 256) / 65536 : Nat) : Int) := by omega
  rw [e5]
  have t6 : an_ ((K + K / 256 + (K + K / 256) / 65536 : Nat) : Int) 63 = ((K + K / 256 + (K + K / 256) / 65536 &&& 63 : Nat) : Int) := an_n (b := 63) (by omega) (by decide)
  have m63 : K + K / 256 + (K + K / 256) / 65536 &&& 63 = (K + K / 256 + (K + K / 256) / 65536) % 64 := Nat.and_two_pow_sub_one_eq_mod _ 6
  rw [t6, m63, hs, pop_4 h1.symm.symm a4 b4 c4]
theorem bs_cn {Y : Nat} {p : Int → Bool} (h : ∀ i : Nat, i < 24 → Y.testBit i = p i) : ∀ n : Nat, n ≤ 24 → (bs_ Y n : Int) = cn_ p n
  | 0, _ => rfl
  | n + 1, hn => by
    have q := bs_cn h n (by omega)
    have w := h n (by omega)
    rw [Nat.testBit_eq_decide_div_mod_eq] at w
    rw [bs_s, cn_s, ← q, ← w]
    by_cases z : Y / 2 ^ n % 2 = 1
    · rw [if_pos (decide_eq_true z), z]
      omega
    · rw [if_neg (by rw [decide_eq_false z]; decide), show Y / 2 ^ n % 2 = 0 by omega]
      omega
theorem l_15 {J : Int → Option (UInt32 × mu_T)} {y : Int} {p : Int → Bool} (hy : mk_ y p) : ∀ (n i : Nat), i + n = 24 → ∀ f : Nat, n < f → f_X12_liveShare_L15 J y f (cn_ p i) i = J (cn_ p 24) := by
  intro n
  induction n with
  | zero =>
    intro i hi f hf
    obtain ⟨f', rfl⟩ : ∃ f', f = f' + 1 := ⟨f - 1, by omega⟩
    have e : i = 24 := by omega
    subst e
    rw [f_X12_liveShare_L15, lt_n (by decide) (by decide) (by decide)]
  | succ n ih =>
    intro i hi f hf
    obtain ⟨f', rfl⟩ : ∃ f', f = f' + 1 := ⟨f - 1, by omega⟩
    have q := ih (i + 1) (by omega) f' (by omega)
    rw [cn_s] at q
    rw [f_X12_liveShare_L15, lt_y (by omega) (by decide) (by omega), sr_1 (by omega), hy.2 i (by omega), decide_eq_true (show i < 24 by omega), Bool.true_and, nm_q, nm_q]
    exact q
set_option maxRecDepth 100000 in
theorem fp_f : ∀ a : Nat, a < 25 → ∀ b : Nat, b < 25 → 0 < b → (FP.fdiv (FP.i2f (iI (a : Int))) (FP.i2f (iI (b : Int))) &&& 0x7fffffff ≤ 0x7f800000) ∧ (FP.f2d (FP.fdiv (FP.i2f (iI (a : Int))) (FP.i2f (iI (b : Int)))) &&& 0x7fffffffffffffff ≤ 0x7ff0000000000000) ∧ Op.cmpValue (FP.dcmp (FP.f2d (FP.fdiv (FP.i2f (iI (a : Int))) (FP.i2f (iI (b : Int))))) (FP.f2d (FP.fdiv (FP.i2f (iI (a : Int))) (FP.i2f (iI (b : Int)))))) .l = iI 0 := by decide +kernel
theorem fp_0 : (FP.f2d FP.fconst0 &&& 0x7fffffffffffffff ≤ 0x7ff0000000000000) ∧ Op.cmpValue (FP.dcmp (FP.f2d FP.fconst0) (FP.f2d FP.fconst0)) .l = iI 0 := by decide +kernel
theorem p_liveShare : pf_liveShare RR_ := fun t μ ν _ hR => by
  have hS := RR_skip t μ ν hR
  obtain ⟨hr, hI⟩ : hr_ μ (ν 1) ∧ iv_ (60 * ((t + 1 : Nat) : Int)) (ν 1) := hS.1
  obtain ⟨F, hF, hF2⟩ := F_big
  obtain ⟨y, e1, e2⟩ := e_reach hr hI
  obtain ⟨z, g, f1, f2⟩ := e_live hI
  have ez := mk_eq e2 f2 (fun _ _ _ => rfl)
  obtain ⟨Y, y1, y2, y3⟩ := mk_n e2
  have hb := nu_b (s := ν 1)
  have q := l_15 (J := fun x3_37 => eq_ (nu_ (ν 1)) 0 (some (FP.fconst0, um_ ν 8 g)) (fd_ (FP.i2f (iI x3_37)) (FP.i2f (iI (nu_ (ν 1)))) (fun v49 => some (v49, um_ ν 8 g)))) f2 24 0 (by decide) F (by omega)
  have hc0 := cn_0 (rq_ (rt_ (ν 1) (-15)) (ej_ (ν 1)) 24) 24
  have hc1 := cn_le (rq_ (rt_ (ν 1) (-15)) (ej_ (ν 1)) 24) 24
  have hbs := bs_cn y3 24 (by decide)
  unfold f_X11_liveShare f_X12_liveShare
  rw [← hF2, e_urns hI.1 hr.2.2.2.1, bd_some, e_many hI.1, bd_some, f1, bp_some, jn_e]
  by_cases h0 : nu_ (ν 1) = 0
  · exact ⟨FP.fconst0, um_ ν 8 g, by rw [eq_y h0], q.trans (by rw [eq_y h0]), RR_kk hR (fun _ _ => rfl) (fun q hq => um_ne hq), fp_0.1, fp_0.2⟩
  · obtain ⟨g1, g2, g3⟩ := fp_f (cn_ (rq_ (rt_ (ν 1) (-15)) (ej_ (ν 1)) 24) 24).toNat (by omega) (nu_ (ν 1)).toNat (by omega) (by omega)
    rw [Int.toNat_of_nonneg hc0, Int.toNat_of_nonneg hb.1] at g1 g2 g3
    refine ⟨FP.fdiv (FP.i2f (iI (cn_ (rq_ (rt_ (ν 1) (-15)) (ej_ (ν 1)) 24) 24))) (FP.i2f (iI (nu_ (ν 1)))), um_ ν 8 g, ?_, q.trans ?_, RR_kk hR (fun _ _ => rfl) (fun q hq => um_ne hq), g2, g3⟩
    · rw [eq_n (by omega) (by decide) h0, e1, bd_some, y1, e_bits y2, bd_some, hbs]
      unfold fd_
      rw [if_pos g1]
    · rw [eq_n (by omega) (by decide) h0]
      unfold fd_
      rw [if_pos g1]
end PC
