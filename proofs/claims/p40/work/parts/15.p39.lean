/-! one order, on both sides -/
/-- an order as both have read it -/
def or9_ (μ ν : mu_T) (i : Int) : Prop := (μ 143 i = 0 ∧ ν 6 (4 * i) = 117 ∧ ν 6 (4 * i + 1) = 0) ∨ (μ 143 i = 1 ∧ ν 6 (4 * i) = 117 ∧ ν 6 (4 * i + 1) = 1) ∨ (μ 143 i = 2 ∧ ν 6 (4 * i) = 116 ∧ (μ 144 i = ν 6 (4 * i + 1) ∧ 0 ≤ ν 6 (4 * i + 1) ∧ ν 6 (4 * i + 1) ≤ 99) ∧ (μ 145 i = ν 6 (4 * i + 2) ∧ 0 ≤ ν 6 (4 * i + 2) ∧ ν 6 (4 * i + 2) ≤ 99) ∧ (μ 146 i = ν 6 (4 * i + 3) ∧ 0 ≤ ν 6 (4 * i + 3) ∧ ν 6 (4 * i + 3) ≤ 99)) ∨ (μ 143 i = 3 ∧ ν 6 (4 * i) = 118 ∧ (μ 144 i = ν 6 (4 * i + 1) ∧ 0 ≤ ν 6 (4 * i + 1) ∧ ν 6 (4 * i + 1) ≤ 99) ∧ (μ 145 i = ν 6 (4 * i + 2) ∧ 0 ≤ ν 6 (4 * i + 2) ∧ ν 6 (4 * i + 2) ≤ 99)) ∨ (μ 143 i = 4 ∧ ν 6 (4 * i) = 110 ∧ (μ 144 i = ν 6 (4 * i + 1) ∧ 0 ≤ ν 6 (4 * i + 1) ∧ ν 6 (4 * i + 1) ≤ 99) ∧ (μ 145 i = ν 6 (4 * i + 2) ∧ 0 ≤ ν 6 (4 * i + 2) ∧ ν 6 (4 * i + 2) ≤ 99)) ∨ (μ 143 i = 5 ∧ ν 6 (4 * i) = 100 ∧ (μ 144 i = ν 6 (4 * i + 1) ∧ 0 ≤ ν 6 (4 * i + 1) ∧ ν 6 (4 * i + 1) ≤ 99)) ∨ (μ 143 i = 6 ∧ ν 6 (4 * i) = 119 ∧ (μ 144 i = ν 6 (4 * i + 1) ∧ 0 ≤ ν 6 (4 * i + 1) ∧ ν 6 (4 * i + 1) ≤ 99) ∧ (μ 145 i = ν 6 (4 * i + 2) ∧ 0 ≤ ν 6 (4 * i + 2) ∧ ν 6 (4 * i + 2) ≤ 99)) ∨ (μ 143 i = 7 ∧ ν 6 (4 * i) = 114) ∨ (μ 143 i = 8 ∧ ν 6 (4 * i) = 115 ∧ (μ 144 i = ν 6 (4 * i + 1) ∧ 0 ≤ ν 6 (4 * i + 1) ∧ ν 6 (4 * i + 1) ≤ 99)) ∨ (μ 143 i = 9 ∧ ν 6 (4 * i) = 105)
/-- what the reference's reading of an order leaves alone -/
def g5_ (o : Int) (ν ν' : mu_T) : Prop := (∀ q, q ≠ 0 → q ≠ 6 → ν' q = ν q) ∧ (∀ j, j ≠ 16 → j ≠ 18 → j ≠ 19 → ν' 0 j = ν 0 j) ∧ ∀ k, k < 4 * o → ν' 6 k = ν 6 k
section OR
variable {μ ν : mu_T} {T : Int → Int} {L a o : Int}
theorem no9_0 (h : ¬ (a < L ∧ T a = 117)) : mt_ T L (fk9_ 0) a = (false, a, []) := hd_no (c := 117) (cs := [114, 110]) (by decide) h
theorem y9_0 (h : a < L ∧ T a = 117) : mt_ T L (fk9_ 0) a = mt_ T L [114, 110] (a + 1) := hd_y (c := 117) (cs := [114, 110]) (by decide) h
theorem n9_0 (h : a < L ∧ T a = 117) (h2 : ¬ (a + 1 < L ∧ T (a + 1) = 114)) : mt_ T L (fk9_ 0) a = (false, a + 1, []) := by
  rw [y9_0 h]
  exact hd_no (by decide) h2
theorem no9_1 (h : ¬ (a < L ∧ T a = 117)) : mt_ T L (fk9_ 1) a = (false, a, []) := hd_no (c := 117) (cs := [114, 110, 33]) (by decide) h
theorem y9_1 (h : a < L ∧ T a = 117) : mt_ T L (fk9_ 1) a = mt_ T L [114, 110, 33] (a + 1) := hd_y (c := 117) (cs := [114, 110, 33]) (by decide) h
theorem n9_1 (h : a < L ∧ T a = 117) (h2 : ¬ (a + 1 < L ∧ T (a + 1) = 114)) : mt_ T L (fk9_ 1) a = (false, a + 1, []) := by
  rw [y9_1 h]
  exact hd_no (by decide) h2
theorem no9_2 (h : ¬ (a < L ∧ T a = 116)) : mt_ T L (fk9_ 2) a = (false, a, []) := hd_no (c := 116) (cs := [105, 101, 32, 35, 46, 36, 61, 35]) (by decide) h
theorem no9_3 (h : ¬ (a < L ∧ T a = 117)) : mt_ T L (fk9_ 3) a = (false, a, []) := hd_no (c := 117) (cs := [110, 116, 105, 101, 32, 35, 46, 36]) (by decide) h
theorem y9_3 (h : a < L ∧ T a = 117) : mt_ T L (fk9_ 3) a = mt_ T L [110, 116, 105, 101, 32, 35, 46, 36] (a + 1) := hd_y (c := 117) (cs := [110, 116, 105, 101, 32, 35, 46, 36]) (by decide) h
theorem n9_3 (h : a < L ∧ T a = 117) (h2 : ¬ (a + 1 < L ∧ T (a + 1) = 110)) : mt_ T L (fk9_ 3) a = (false, a + 1, []) := by
  rw [y9_3 h]
  exact hd_no (by decide) h2
theorem no9_4 (h : ¬ (a < L ∧ T a = 110)) : mt_ T L (fk9_ 4) a = (false, a, []) := hd_no (c := 110) (cs := [97, 109, 101, 32, 64, 61, 35]) (by decide) h
theorem no9_5 (h : ¬ (a < L ∧ T a = 100)) : mt_ T L (fk9_ 5) a = (false, a, []) := hd_no (c := 100) (cs := [114, 111, 112, 32, 64]) (by decide) h
theorem no9_6 (h : ¬ (a < L ∧ T a = 119)) : mt_ T L (fk9_ 6) a = (false, a, []) := hd_no (c := 119) (cs := [101, 97, 107, 32, 35, 61, 35]) (by decide) h
theorem no9_7 (h : ¬ (a < L ∧ T a = 114)) : mt_ T L (fk9_ 7) a = (false, a, []) := hd_no (c := 114) (cs := [111, 117, 110, 100]) (by decide) h
theorem y9_7 (h : a < L ∧ T a = 114) : mt_ T L (fk9_ 7) a = mt_ T L [111, 117, 110, 100] (a + 1) := hd_y (c := 114) (cs := [111, 117, 110, 100]) (by decide) h
theorem n9_7 (h : a < L ∧ T a = 114) (h2 : ¬ (a + 1 < L ∧ T (a + 1) = 111)) : mt_ T L (fk9_ 7) a = (false, a + 1, []) := by
  rw [y9_7 h]
  exact hd_no (by decide) h2
theorem no9_8 (h : ¬ (a < L ∧ T a = 115)) : mt_ T L (fk9_ 8) a = (false, a, []) := hd_no (c := 115) (cs := [116, 101, 112, 32, 35]) (by decide) h
theorem no9_9 (h : ¬ (a < L ∧ T a = 114)) : mt_ T L (fk9_ 9) a = (false, a, []) := hd_no (c := 114) (cs := [105, 116, 101]) (by decide) h
theorem y9_9 (h : a < L ∧ T a = 114) : mt_ T L (fk9_ 9) a = mt_ T L [105, 116, 101] (a + 1) := hd_y (c := 114) (cs := [105, 116, 101]) (by decide) h
theorem n9_9 (h : a < L ∧ T a = 114) (h2 : ¬ (a + 1 < L ∧ T (a + 1) = 105)) : mt_ T L (fk9_ 9) a = (false, a + 1, []) := by
  rw [y9_9 h]
  exact hd_no (by decide) h2
theorem cl9 {j x y : Int} (h : mt_ T L (fk9_ j) a = (false, x, [])) (hx : x ≤ y) : (mt_ T L (fk9_ j) a).1 = false ∧ (mt_ T L (fk9_ j) a).2.1 ≤ y := by
  rw [h]
  exact ⟨rfl, hx⟩
theorem cc_116 (h : T a = 116) : ∀ j, 0 ≤ j → j < 10 → j ≠ 2 → (mt_ T L (fk9_ j) a).1 = false ∧ (mt_ T L (fk9_ j) a).2.1 ≤ (mt_ T L (fk9_ 2) a).2.1 := by
  have g0 := (mt_b (T := T) (L := L) (fk9_ 2) a).1
  intro j j0 j1 hj
  rcases (show j = 0 ∨ j = 1 ∨ j = 2 ∨ j = 3 ∨ j = 4 ∨ j = 5 ∨ j = 6 ∨ j = 7 ∨ j = 8 ∨ j = 9 by omega) with rfl | rfl | rfl | rfl | rfl | rfl | rfl | rfl | rfl | rfl
  · exact cl9 (no9_0 (by omega)) g0
  · exact cl9 (no9_1 (by omega)) g0
  · exact absurd rfl hj
  · exact cl9 (no9_3 (by omega)) g0
  · exact cl9 (no9_4 (by omega)) g0
  · exact cl9 (no9_5 (by omega)) g0
  · exact cl9 (no9_6 (by omega)) g0
  · exact cl9 (no9_7 (by omega)) g0
  · exact cl9 (no9_8 (by omega)) g0
  · exact cl9 (no9_9 (by omega)) g0
theorem cc_110 (h : T a = 110) : ∀ j, 0 ≤ j → j < 10 → j ≠ 4 → (mt_ T L (fk9_ j) a).1 = false ∧ (mt_ T L (fk9_ j) a).2.1 ≤ (mt_ T L (fk9_ 4) a).2.1 := by
  have g0 := (mt_b (T := T) (L := L) (fk9_ 4) a).1
  intro j j0 j1 hj
  rcases (show j = 0 ∨ j = 1 ∨ j = 2 ∨ j = 3 ∨ j = 4 ∨ j = 5 ∨ j = 6 ∨ j = 7 ∨ j = 8 ∨ j = 9 by omega) with rfl | rfl | rfl | rfl | rfl | rfl | rfl | rfl | rfl | rfl
  · exact cl9 (no9_0 (by omega)) g0
  · exact cl9 (no9_1 (by omega)) g0
  · exact cl9 (no9_2 (by omega)) g0
  · exact cl9 (no9_3 (by omega)) g0
  · exact absurd rfl hj
  · exact cl9 (no9_5 (by omega)) g0
  · exact cl9 (no9_6 (by omega)) g0
  · exact cl9 (no9_7 (by omega)) g0
  · exact cl9 (no9_8 (by omega)) g0
  · exact cl9 (no9_9 (by omega)) g0
theorem cc_100 (h : T a = 100) : ∀ j, 0 ≤ j → j < 10 → j ≠ 5 → (mt_ T L (fk9_ j) a).1 = false ∧ (mt_ T L (fk9_ j) a).2.1 ≤ (mt_ T L (fk9_ 5) a).2.1 := by
  have g0 := (mt_b (T := T) (L := L) (fk9_ 5) a).1
  intro j j0 j1 hj
  rcases (show j = 0 ∨ j = 1 ∨ j = 2 ∨ j = 3 ∨ j = 4 ∨ j = 5 ∨ j = 6 ∨ j = 7 ∨ j = 8 ∨ j = 9 by omega) with rfl | rfl | rfl | rfl | rfl | rfl | rfl | rfl | rfl | rfl
  · exact cl9 (no9_0 (by omega)) g0
  · exact cl9 (no9_1 (by omega)) g0
  · exact cl9 (no9_2 (by omega)) g0
  · exact cl9 (no9_3 (by omega)) g0
  · exact cl9 (no9_4 (by omega)) g0
  · exact absurd rfl hj
  · exact cl9 (no9_6 (by omega)) g0
  · exact cl9 (no9_7 (by omega)) g0
  · exact cl9 (no9_8 (by omega)) g0
  · exact cl9 (no9_9 (by omega)) g0
theorem cc_119 (h : T a = 119) : ∀ j, 0 ≤ j → j < 10 → j ≠ 6 → (mt_ T L (fk9_ j) a).1 = false ∧ (mt_ T L (fk9_ j) a).2.1 ≤ (mt_ T L (fk9_ 6) a).2.1 := by
  have g0 := (mt_b (T := T) (L := L) (fk9_ 6) a).1
  intro j j0 j1 hj
  rcases (show j = 0 ∨ j = 1 ∨ j = 2 ∨ j = 3 ∨ j = 4 ∨ j = 5 ∨ j = 6 ∨ j = 7 ∨ j = 8 ∨ j = 9 by omega) with rfl | rfl | rfl | rfl | rfl | rfl | rfl | rfl | rfl | rfl
  · exact cl9 (no9_0 (by omega)) g0
  · exact cl9 (no9_1 (by omega)) g0
  · exact cl9 (no9_2 (by omega)) g0
  · exact cl9 (no9_3 (by omega)) g0
  · exact cl9 (no9_4 (by omega)) g0
  · exact cl9 (no9_5 (by omega)) g0
  · exact absurd rfl hj
  · exact cl9 (no9_7 (by omega)) g0
  · exact cl9 (no9_8 (by omega)) g0
  · exact cl9 (no9_9 (by omega)) g0
theorem cc_115 (h : T a = 115) : ∀ j, 0 ≤ j → j < 10 → j ≠ 8 → (mt_ T L (fk9_ j) a).1 = false ∧ (mt_ T L (fk9_ j) a).2.1 ≤ (mt_ T L (fk9_ 8) a).2.1 := by
  have g0 := (mt_b (T := T) (L := L) (fk9_ 8) a).1
  intro j j0 j1 hj
  rcases (show j = 0 ∨ j = 1 ∨ j = 2 ∨ j = 3 ∨ j = 4 ∨ j = 5 ∨ j = 6 ∨ j = 7 ∨ j = 8 ∨ j = 9 by omega) with rfl | rfl | rfl | rfl | rfl | rfl | rfl | rfl | rfl | rfl
  · exact cl9 (no9_0 (by omega)) g0
  · exact cl9 (no9_1 (by omega)) g0
  · exact cl9 (no9_2 (by omega)) g0
  · exact cl9 (no9_3 (by omega)) g0
  · exact cl9 (no9_4 (by omega)) g0
  · exact cl9 (no9_5 (by omega)) g0
  · exact cl9 (no9_6 (by omega)) g0
  · exact cl9 (no9_7 (by omega)) g0
  · exact absurd rfl hj
  · exact cl9 (no9_9 (by omega)) g0
theorem cc_118v (h : T a = 118) : ∀ j, 0 ≤ j → j < 10 → j ≠ 3 → (mt_ T L (fk9_ j) a).1 = false ∧ (mt_ T L (fk9_ j) a).2.1 ≤ (mt_ T L (fk9_ 3) a).2.1 := by
  have g0 := (mt_b (T := T) (L := L) (fk9_ 3) a).1
  intro j j0 j1 hj
  rcases (show j = 0 ∨ j = 1 ∨ j = 2 ∨ j = 3 ∨ j = 4 ∨ j = 5 ∨ j = 6 ∨ j = 7 ∨ j = 8 ∨ j = 9 by omega) with rfl | rfl | rfl | rfl | rfl | rfl | rfl | rfl | rfl | rfl
  · exact cl9 (no9_0 (by omega)) g0
  · exact cl9 (no9_1 (by omega)) g0
  · exact cl9 (no9_2 (by omega)) g0
  · exact absurd rfl hj
  · exact cl9 (no9_4 (by omega)) g0
  · exact cl9 (no9_5 (by omega)) g0
  · exact cl9 (no9_6 (by omega)) g0
  · exact cl9 (no9_7 (by omega)) g0
  · exact cl9 (no9_8 (by omega)) g0
  · exact cl9 (no9_9 (by omega)) g0
theorem cc_105i (h : T a = 105) : ∀ j, 0 ≤ j → j < 10 → j ≠ 9 → (mt_ T L (fk9_ j) a).1 = false ∧ (mt_ T L (fk9_ j) a).2.1 ≤ (mt_ T L (fk9_ 9) a).2.1 := by
  have g0 := (mt_b (T := T) (L := L) (fk9_ 9) a).1
  intro j j0 j1 hj
  rcases (show j = 0 ∨ j = 1 ∨ j = 2 ∨ j = 3 ∨ j = 4 ∨ j = 5 ∨ j = 6 ∨ j = 7 ∨ j = 8 ∨ j = 9 by omega) with rfl | rfl | rfl | rfl | rfl | rfl | rfl | rfl | rfl | rfl
  · exact cl9 (no9_0 (by omega)) g0
  · exact cl9 (no9_1 (by omega)) g0
  · exact cl9 (no9_2 (by omega)) g0
  · exact cl9 (no9_3 (by omega)) g0
  · exact cl9 (no9_4 (by omega)) g0
  · exact cl9 (no9_5 (by omega)) g0
  · exact cl9 (no9_6 (by omega)) g0
  · exact cl9 (no9_7 (by omega)) g0
  · exact cl9 (no9_8 (by omega)) g0
  · exact absurd rfl hj
theorem cc_118 (h : a < L ∧ T a = 117) (h2 : a + 1 < L ∧ T (a + 1) = 110) : ∀ j, 0 ≤ j → j < 10 → j ≠ 3 → (mt_ T L (fk9_ j) a).1 = false ∧ (mt_ T L (fk9_ j) a).2.1 ≤ (mt_ T L (fk9_ 3) a).2.1 := by
  have g0 := (mt_b (T := T) (L := L) (fk9_ 3) a).1
  have g1 : a + 1 ≤ (mt_ T L (fk9_ 3) a).2.1 := by
    rw [y9_3 h]
    exact (mt_b _ _).1
  intro j j0 j1 hj
  rcases (show j = 0 ∨ j = 1 ∨ j = 2 ∨ j = 3 ∨ j = 4 ∨ j = 5 ∨ j = 6 ∨ j = 7 ∨ j = 8 ∨ j = 9 by omega) with rfl | rfl | rfl | rfl | rfl | rfl | rfl | rfl | rfl | rfl
  · exact cl9 (n9_0 h (by omega)) g1
  · exact cl9 (n9_1 h (by omega)) g1
  · exact cl9 (no9_2 (by omega)) g0
  · exact absurd rfl hj
  · exact cl9 (no9_4 (by omega)) g0
  · exact cl9 (no9_5 (by omega)) g0
  · exact cl9 (no9_6 (by omega)) g0
  · exact cl9 (no9_7 (by omega)) g0
  · exact cl9 (no9_8 (by omega)) g0
  · exact cl9 (no9_9 (by omega)) g0
theorem cc_105 (h : a < L ∧ T a = 114) (h2 : a + 1 < L ∧ T (a + 1) = 105) : ∀ j, 0 ≤ j → j < 10 → j ≠ 9 → (mt_ T L (fk9_ j) a).1 = false ∧ (mt_ T L (fk9_ j) a).2.1 ≤ (mt_ T L (fk9_ 9) a).2.1 := by
  have g0 := (mt_b (T := T) (L := L) (fk9_ 9) a).1
  have g1 : a + 1 ≤ (mt_ T L (fk9_ 9) a).2.1 := by
    rw [y9_9 h]
    exact (mt_b _ _).1
  intro j j0 j1 hj
  rcases (show j = 0 ∨ j = 1 ∨ j = 2 ∨ j = 3 ∨ j = 4 ∨ j = 5 ∨ j = 6 ∨ j = 7 ∨ j = 8 ∨ j = 9 by omega) with rfl | rfl | rfl | rfl | rfl | rfl | rfl | rfl | rfl | rfl
  · exact cl9 (no9_0 (by omega)) g0
  · exact cl9 (no9_1 (by omega)) g0
  · exact cl9 (no9_2 (by omega)) g0
  · exact cl9 (no9_3 (by omega)) g0
  · exact cl9 (no9_4 (by omega)) g0
  · exact cl9 (no9_5 (by omega)) g0
  · exact cl9 (no9_6 (by omega)) g0
  · exact cl9 (n9_7 h (by omega)) g1
  · exact cl9 (no9_8 (by omega)) g0
  · exact absurd rfl hj
theorem cc_114 (h : a < L ∧ T a = 114) (h2 : ¬ (a + 1 < L ∧ T (a + 1) = 105)) : ∀ j, 0 ≤ j → j < 10 → j ≠ 7 → (mt_ T L (fk9_ j) a).1 = false ∧ (mt_ T L (fk9_ j) a).2.1 ≤ (mt_ T L (fk9_ 7) a).2.1 := by
  have g0 := (mt_b (T := T) (L := L) (fk9_ 7) a).1
  have g1 : a + 1 ≤ (mt_ T L (fk9_ 7) a).2.1 := by
    rw [y9_7 h]
    exact (mt_b _ _).1
  intro j j0 j1 hj
  rcases (show j = 0 ∨ j = 1 ∨ j = 2 ∨ j = 3 ∨ j = 4 ∨ j = 5 ∨ j = 6 ∨ j = 7 ∨ j = 8 ∨ j = 9 by omega) with rfl | rfl | rfl | rfl | rfl | rfl | rfl | rfl | rfl | rfl
  · exact cl9 (no9_0 (by omega)) g0
  · exact cl9 (no9_1 (by omega)) g0
  · exact cl9 (no9_2 (by omega)) g0
  · exact cl9 (no9_3 (by omega)) g0
  · exact cl9 (no9_4 (by omega)) g0
  · exact cl9 (no9_5 (by omega)) g0
  · exact cl9 (no9_6 (by omega)) g0
  · exact absurd rfl hj
  · exact cl9 (no9_8 (by omega)) g0
  · exact cl9 (n9_9 h h2) g1
theorem c_fin {k : Int} {ν' : mu_T} (hx : xt_ μ T L) (hc : μ 140 5 = o) (ht : tl_ T L a o) (hk : 0 ≤ k ∧ k < 10) (hcc : ∀ j, 0 ≤ j → j < 10 → j ≠ k → (mt_ T L (fk9_ j) a).1 = false ∧ (mt_ T L (fk9_ j) a).2.1 ≤ (mt_ T L (fk9_ k) a).2.1) (h16 : ν' 0 16 = (mt_ T L (fk9_ k) a).2.1) (hw : ((mt_ T L (fk9_ k) a).1 = true ∧ ν' 0 19 = 0 ∧ ∀ j : Nat, j < (mt_ T L (fk9_ k) a).2.2.length → ν' 6 (4 * o + 1 + j) = (mt_ T L (fk9_ k) a).2.2.getD j 0) ∨ ((mt_ T L (fk9_ k) a).1 = false ∧ ν' 0 19 = 1)) (hlen : 3 ≤ (fk9_ k).length) (hor : ∀ μ' : mu_T, (mt_ T L (fk9_ k) a).1 = true → (∀ j : Nat, j < (mt_ T L (fk9_ k) a).2.2.length → ν' 6 (4 * o + 1 + j) = (mt_ T L (fk9_ k) a).2.2.getD j 0) → μ' 143 o = k → (0 < (mt_ T L (fk9_ k) a).2.2.length → μ' 144 o = (mt_ T L (fk9_ k) a).2.2.getD 0 0) → (1 < (mt_ T L (fk9_ k) a).2.2.length → μ' 145 o = (mt_ T L (fk9_ k) a).2.2.getD 1 0) → (2 < (mt_ T L (fk9_ k) a).2.2.length → μ' 146 o = (mt_ T L (fk9_ k) a).2.2.getD 2 0) → or9_ μ' ν' o) : ∃ μ', f5_ o μ μ' ∧ ((f_X6_readOrder μ a = some (-15, μ') ∧ μ' 140 5 = o + 1 ∧ ∃ p, μ' 140 7 = p ∧ ν' 0 16 = p ∧ ν' 0 19 = 0 ∧ a + 3 ≤ p ∧ p ≤ L ∧ (L ≤ p ∨ T p = 59) ∧ or9_ μ' ν' o) ∨ (∃ p, f_X6_readOrder μ a = some (p, μ') ∧ a ≤ p ∧ p ≤ L ∧ ν' 0 16 = p ∧ (ν' 0 19 = 1 ∨ (ν' 0 19 = 0 ∧ p < L ∧ T p ≠ 59)))) := by
  have ho := ht.2.2.2
  have ha := ht.2.2.1
  obtain ⟨e1, e2⟩ := e_ro hx ha.1 ha.2 hc (by omega)
  have hb := mt_b (T := T) (L := L) (fk9_ k) a
  have hb2 := hb.2.1 ha.2
  by_cases hg : gd9_ T L a k
  · obtain ⟨μ', d1, d2, d3, d4, d5, d6, d7, d8⟩ := e1 k hk.1 hk.2 hg (fun j j0 j1 q => by
      have w := (hcc j j0 (by omega) (by omega)).1
      rw [q.1] at w
      exact absurd w (by decide))
    have hb3 := hb.2.2 hg.1
    rcases hw with ⟨w1, w2, w3⟩ | ⟨w1, -⟩
    · exact ⟨μ', d2, Or.inl ⟨d1, d3, _, d4, h16, w2, by omega, hb2, hg.2, hor μ' w1 w3 d5 d6 d7 d8⟩⟩
    · rw [hg.1] at w1
      exact absurd w1 (by decide)
  · obtain ⟨μ', M, d1, d2, d3, d4⟩ := e2 (fun j j0 j1 q => by
      by_cases hj : j = k
      · rw [hj] at q
        exact hg q
      · have w := (hcc j j0 j1 hj).1
        rw [q.1] at w
        exact absurd w (by decide))
    have hM : M = (mt_ T L (fk9_ k) a).2.1 := by
      have q1 := d3.2 k hk.1 hk.2
      rcases d4 with z | ⟨j, j0, j1, j2⟩
      · omega
      · by_cases hj : j = k
        · rw [hj] at j2
          exact j2
        · have w := (hcc j j0 j1 hj).2
          omega
    refine ⟨μ', d2, Or.inr ⟨M, d1, d3.1, by omega, by rw [hM]; exact h16, ?_⟩⟩
    rcases hw with ⟨w1, w2, w3⟩ | ⟨w1, w2⟩
    · refine Or.inr ⟨w2, ?_, fun q => hg ⟨w1, Or.inr (by rw [← hM]; exact q)⟩⟩
      have q : ¬ L ≤ (mt_ T L (fk9_ k) a).2.1 := fun q => hg ⟨w1, Or.inl q⟩
      omega
    · exact Or.inl w2
theorem c_order (hx : xt_ μ T L) (hc : μ 140 5 = o) (h5 : ν 5 = T) (h17 : ν 0 17 = L) (h18 : ν 0 18 = o) (h16 : ν 0 16 = a) (h19 : ν 0 19 = 0) (ht : tl_ T L a o) : ∃ μ' ν', f_X12_readsOne ν = some ν' ∧ g5_ o ν ν' ∧ ν' 0 18 = o + 1 ∧ f5_ o μ μ' ∧ ((f_X6_readOrder μ a = some (-15, μ') ∧ μ' 140 5 = o + 1 ∧ ∃ p, μ' 140 7 = p ∧ ν' 0 16 = p ∧ ν' 0 19 = 0 ∧ a + 3 ≤ p ∧ p ≤ L ∧ (L ≤ p ∨ T p = 59) ∧ or9_ μ' ν' o) ∨ (∃ p, f_X6_readOrder μ a = some (p, μ') ∧ a ≤ p ∧ p ≤ L ∧ ν' 0 16 = p ∧ (ν' 0 19 = 1 ∨ (ν' 0 19 = 0 ∧ p < L ∧ T p ≠ 59)))) := by
  have ho := ht.2.2.2
  have ha := ht.2.2.1
  obtain ⟨G, hG⟩ : ∃ G : Int → Option mu_T, G = (fun s0_46 => bd_ (f_X12_tells ν 0 s0_46) (fun μ50 => jn_ (φ := mu_T → Option mu_T) (fun μ340 => nm_ (μ340 0 18) (fun v342 => wf_ μ340 0 18 (v342 + 1) (fun μ347 => some μ347))) (fun J340 => ts_ s0_46 [117, 116, 118, 110, 100, 119, 114, 115, 105] [bd_ (f_X12_word μ50 10) (fun μ151 => nm_ (μ151 0 19) (fun v157 => jn_ (φ := Int → Option mu_T) (fun s0_177 => bd_ (f_X12_tells μ151 1 s0_177) (fun μ177 => nm_ (μ177 0 16) (fun v182 => nm_ (μ177 0 18) (fun v191 => rd_ μ177 6 80 ((4 * v191) + 1) (fun v197 => wf_ μ177 0 16 (v182 + v197) (fun μ199 => J340 μ199)))))) (fun J177 => jn_ (φ := Unit → Option mu_T) (fun _ => J177 0) (fun J176 => eq_ v157 0 (bd_ (f_X12_here μ151) (fun v164 => eq_ v164 33 (J177 1) (J176 ()))) (J176 ()))))), bd_ (f_X12_slotOf μ50 11) (fun μ208 => bd_ (f_X12_word μ208 13) (fun μ214 => bd_ (f_X12_number μ214 3 2) (fun μ220 => J340 μ220))), bd_ (f_X12_slotOf μ50 14) (fun μ229 => J340 μ229), bd_ (f_X12_word μ50 15) (fun μ238 => bd_ (f_X12_letter μ238 1) (fun μ243 => bd_ (f_X12_word μ243 13) (fun μ249 => bd_ (f_X12_number μ249 2 2) (fun μ255 => J340 μ255)))), bd_ (f_X12_word μ50 16) (fun μ264 => bd_ (f_X12_letter μ264 1) (fun μ269 => J340 μ269)), bd_ (f_X12_word μ50 17) (fun μ278 => bd_ (f_X12_number μ278 1 2) (fun μ284 => bd_ (f_X12_word μ284 13) (fun μ290 => bd_ (f_X12_number μ290 2 2) (fun μ296 => J340 μ296)))), bd_ (f_X12_word μ50 18) (fun μ305 => J340 μ305), bd_ (f_X12_word μ50 19) (fun μ314 => bd_ (f_X12_number μ314 1 2) (fun μ320 => J340 μ320)), bd_ (f_X12_word μ50 20) (fun μ329 => J340 μ329)] (wz_ μ50 0 19 1 (fun μ337 => J340 μ337))))) := ⟨_, rfl⟩
  have eG : ∀ v : Int, G v = ts_ v [117, 116, 118, 110, 100, 119, 114, 115, 105] [bd_ (f_X12_word (st_ ν 6 (4 * o + 0) v) 10) (fun μ151 => nm_ (μ151 0 19) (fun v157 => jn_ (φ := Int → Option mu_T) (fun s0_177 => bd_ (f_X12_tells μ151 1 s0_177) (fun μ177 => nm_ (μ177 0 16) (fun v182 => nm_ (μ177 0 18) (fun v191 => rd_ μ177 6 80 ((4 * v191) + 1) (fun v197 => wf_ μ177 0 16 (v182 + v197) (fun μ199 => (fun μ340 => nm_ (μ340 0 18) (fun v342 => wf_ μ340 0 18 (v342 + 1) (fun μ347 => some μ347))) μ199)))))) (fun J177 => jn_ (φ := Unit → Option mu_T) (fun _ => J177 0) (fun J176 => eq_ v157 0 (bd_ (f_X12_here μ151) (fun v164 => eq_ v164 33 (J177 1) (J176 ()))) (J176 ()))))), bd_ (f_X12_slotOf (st_ ν 6 (4 * o + 0) v) 11) (fun μ208 => bd_ (f_X12_word μ208 13) (fun μ214 => bd_ (f_X12_number μ214 3 2) (fun μ220 => (fun μ340 => nm_ (μ340 0 18) (fun v342 => wf_ μ340 0 18 (v342 + 1) (fun μ347 => some μ347))) μ220))), bd_ (f_X12_slotOf (st_ ν 6 (4 * o + 0) v) 14) (fun μ229 => (fun μ340 => nm_ (μ340 0 18) (fun v342 => wf_ μ340 0 18 (v342 + 1) (fun μ347 => some μ347))) μ229), bd_ (f_X12_word (st_ ν 6 (4 * o + 0) v) 15) (fun μ238 => bd_ (f_X12_letter μ238 1) (fun μ243 => bd_ (f_X12_word μ243 13) (fun μ249 => bd_ (f_X12_number μ249 2 2) (fun μ255 => (fun μ340 => nm_ (μ340 0 18) (fun v342 => wf_ μ340 0 18 (v342 + 1) (fun μ347 => some μ347))) μ255)))), bd_ (f_X12_word (st_ ν 6 (4 * o + 0) v) 16) (fun μ264 => bd_ (f_X12_letter μ264 1) (fun μ269 => (fun μ340 => nm_ (μ340 0 18) (fun v342 => wf_ μ340 0 18 (v342 + 1) (fun μ347 => some μ347))) μ269)), bd_ (f_X12_word (st_ ν 6 (4 * o + 0) v) 17) (fun μ278 => bd_ (f_X12_number μ278 1 2) (fun μ284 => bd_ (f_X12_word μ284 13) (fun μ290 => bd_ (f_X12_number μ290 2 2) (fun μ296 => (fun μ340 => nm_ (μ340 0 18) (fun v342 => wf_ μ340 0 18 (v342 + 1) (fun μ347 => some μ347))) μ296)))), bd_ (f_X12_word (st_ ν 6 (4 * o + 0) v) 18) (fun μ305 => (fun μ340 => nm_ (μ340 0 18) (fun v342 => wf_ μ340 0 18 (v342 + 1) (fun μ347 => some μ347))) μ305), bd_ (f_X12_word (st_ ν 6 (4 * o + 0) v) 19) (fun μ314 => bd_ (f_X12_number μ314 1 2) (fun μ320 => (fun μ340 => nm_ (μ340 0 18) (fun v342 => wf_ μ340 0 18 (v342 + 1) (fun μ347 => some μ347))) μ320)), bd_ (f_X12_word (st_ ν 6 (4 * o + 0) v) 20) (fun μ329 => (fun μ340 => nm_ (μ340 0 18) (fun v342 => wf_ μ340 0 18 (v342 + 1) (fun μ347 => some μ347))) μ329)] (wz_ (st_ ν 6 (4 * o + 0) v) 0 19 1 (fun μ337 => (fun μ340 => nm_ (μ340 0 18) (fun v342 => wf_ μ340 0 18 (v342 + 1) (fun μ347 => some μ347))) μ337)) := fun v => by
    rw [hG]
    show bd_ (f_X12_tells ν 0 v) _ = _
    rw [e_tells h18 ho (by decide), bd_some]
    rfl
  have e0 : f_X12_readsOne ν = bd_ (f_X12_here ν) (fun v1 => jn_ (φ := Int → Option mu_T) G (fun J46 => jn_ (φ := Unit → Option mu_T) (fun _ => jn_ (φ := Unit → Option mu_T) (fun _ => J46 v1) (fun J45 => eq_ v1 114 (bd_ (f_X12_next ν) (fun v32 => eq_ v32 105 (J46 105) (J45 ()))) (J45 ()))) (fun J25 => eq_ v1 117 (bd_ (f_X12_next ν) (fun v12 => eq_ v12 110 (J46 118) (J25 ()))) (J25 ())))) := by
    rw [hG]
    rfl
  clear hG
  have eJ : ∀ κ : mu_T, κ 0 18 = o → (fun μ340 : mu_T => nm_ (μ340 0 18) (fun v342 => wf_ μ340 0 18 (v342 + 1) (fun μ347 => some μ347))) κ = some (st_ κ 0 18 (o + 1)) := fun κ hκ => by
    show nm_ (κ 0 18) (fun v342 => wf_ κ 0 18 (v342 + 1) (fun μ347 => some μ347)) = _
    rw [nm_q, hκ, wf_e]
  have hz : ∀ v : Int, pz_ T L a o (st_ ν 6 (4 * o + 0) v) [] := fun v => ⟨⟨by rw [st_n (by decide)]; exact h5, by rw [st_n (by decide)]; exact h17, by rw [st_n (by decide)]; exact h18⟩, by rw [st_n (by decide)]; exact h16, Or.inl ⟨rfl, by rw [st_n (by decide)]; exact h19, fun j hj => absurd hj (Nat.not_lt_zero _)⟩⟩
  have fr : ∀ (v : Int) (κ : mu_T), fz_ o (st_ ν 6 (4 * o + 0) v) κ → g5_ o ν (st_ κ 0 18 (o + 1)) ∧ (st_ κ 0 18 (o + 1)) 6 (4 * o) = v := fun v κ h => by
    refine ⟨⟨fun q q0 q1 => by rw [st_n q0, h.1 q q0 q1, st_n q1], fun j j0 j1 j2 => by rw [st_s, if_neg j1, h.2.1 j j0 j2, st_n (by decide)], fun k hk => by rw [st_n (by decide), h.2.2 k (by omega), st_s, if_neg (by omega)]⟩, ?_⟩
    rw [st_n (by decide), h.2.2 _ (by omega), st_s, if_pos (by omega)]
  have n0 : ∀ (κ : mu_T) (j : Int), j ≠ 18 → (st_ κ 0 18 (o + 1)) 0 j = κ 0 j := fun κ j hj => by rw [st_s, if_neg hj]
  have n6 : ∀ κ : mu_T, (st_ κ 0 18 (o + 1)) 6 = κ 6 := fun κ => st_n (by decide)
  have e18 : ∀ κ : mu_T, (st_ κ 0 18 (o + 1)) 0 18 = o + 1 := fun κ => by rw [st_s, if_pos rfl]
  have kind2 : (∀ j, 0 ≤ j → j < 10 → j ≠ 2 → (mt_ T L (fk9_ j) a).1 = false ∧ (mt_ T L (fk9_ j) a).2.1 ≤ (mt_ T L (fk9_ 2) a).2.1) → f_X12_readsOne ν = G 116 → ∃ μ' ν', f_X12_readsOne ν = some ν' ∧ g5_ o ν ν' ∧ ν' 0 18 = o + 1 ∧ f5_ o μ μ' ∧ ((f_X6_readOrder μ a = some (-15, μ') ∧ μ' 140 5 = o + 1 ∧ ∃ p, μ' 140 7 = p ∧ ν' 0 16 = p ∧ ν' 0 19 = 0 ∧ a + 3 ≤ p ∧ p ≤ L ∧ (L ≤ p ∨ T p = 59) ∧ or9_ μ' ν' o) ∨ (∃ p, f_X6_readOrder μ a = some (p, μ') ∧ a ≤ p ∧ p ≤ L ∧ ν' 0 16 = p ∧ (ν' 0 19 = 1 ∨ (ν' 0 19 = 0 ∧ p < L ∧ T p ≠ 59)))) := fun hcc he => by
    obtain ⟨κ, a1, a2, a3⟩ := zq_2 (J := fun μ340 => nm_ (μ340 0 18) (fun v342 => wf_ μ340 0 18 (v342 + 1) (fun μ347 => some μ347))) ht (hz 116)
    obtain ⟨f1, f2⟩ := fr 116 κ a3
    have hfin := c_fin (k := 2) (ν' := st_ κ 0 18 (o + 1)) hx hc ht (by decide) hcc (by rw [n0 _ _ (by decide)]; exact a2.2.1) (by rw [n0 _ _ (by decide), n6]; exact a2.2.2) (by decide) (fun μ' hok hv q0 q1 q2 q3 => ?_)
    · obtain ⟨μ', g1, g2⟩ := hfin
      refine ⟨μ', _, ?_, f1, e18 κ, g1, g2⟩
      rw [he, eG, t9_1]
      exact a1.trans (eJ κ a2.1.2.2)
    · have hl := nl_ (n := 3) (by decide) _ hok
      have hr := mt_v (T := T) (L := L) (fk9_ 2) a
      have r0 : (mt_ T L (fk9_ 2) a).2.2.getD 0 0 ∈ (mt_ T L (fk9_ 2) a).2.2 := by
        rw [List.getD_eq_getElem?_getD, List.getElem?_eq_getElem (by omega)]
        exact List.getElem_mem _
      have s0 := hv 0 (by omega)
      have i0 : 4 * o + 1 + ((0 : Nat) : Int) = 4 * o + 1 := by omega
      rw [i0] at s0
      have b0 := hr _ r0
      have r1 : (mt_ T L (fk9_ 2) a).2.2.getD 1 0 ∈ (mt_ T L (fk9_ 2) a).2.2 := by
        rw [List.getD_eq_getElem?_getD, List.getElem?_eq_getElem (by omega)]
        exact List.getElem_mem _
      have s1 := hv 1 (by omega)
      have i1 : 4 * o + 1 + ((1 : Nat) : Int) = 4 * o + 2 := by omega
      rw [i1] at s1
      have b1 := hr _ r1
      have r2 : (mt_ T L (fk9_ 2) a).2.2.getD 2 0 ∈ (mt_ T L (fk9_ 2) a).2.2 := by
        rw [List.getD_eq_getElem?_getD, List.getElem?_eq_getElem (by omega)]
        exact List.getElem_mem _
      have s2 := hv 2 (by omega)
      have i2 : 4 * o + 1 + ((2 : Nat) : Int) = 4 * o + 3 := by omega
      rw [i2] at s2
      have b2 := hr _ r2
      exact Or.inr (Or.inr (Or.inl ⟨q0, f2, ⟨(q1 (by omega)).trans s0.symm, by rw [s0]; exact b0.1, by rw [s0]; exact b0.2⟩, ⟨(q2 (by omega)).trans s1.symm, by rw [s1]; exact b1.1, by rw [s1]; exact b1.2⟩, ⟨(q3 (by omega)).trans s2.symm, by rw [s2]; exact b2.1, by rw [s2]; exact b2.2⟩⟩))
  have kind3 : (∀ j, 0 ≤ j → j < 10 → j ≠ 3 → (mt_ T L (fk9_ j) a).1 = false ∧ (mt_ T L (fk9_ j) a).2.1 ≤ (mt_ T L (fk9_ 3) a).2.1) → f_X12_readsOne ν = G 118 → ∃ μ' ν', f_X12_readsOne ν = some ν' ∧ g5_ o ν ν' ∧ ν' 0 18 = o + 1 ∧ f5_ o μ μ' ∧ ((f_X6_readOrder μ a = some (-15, μ') ∧ μ' 140 5 = o + 1 ∧ ∃ p, μ' 140 7 = p ∧ ν' 0 16 = p ∧ ν' 0 19 = 0 ∧ a + 3 ≤ p ∧ p ≤ L ∧ (L ≤ p ∨ T p = 59) ∧ or9_ μ' ν' o) ∨ (∃ p, f_X6_readOrder μ a = some (p, μ') ∧ a ≤ p ∧ p ≤ L ∧ ν' 0 16 = p ∧ (ν' 0 19 = 1 ∨ (ν' 0 19 = 0 ∧ p < L ∧ T p ≠ 59)))) := fun hcc he => by
    obtain ⟨κ, a1, a2, a3⟩ := zq_3 (J := fun μ340 => nm_ (μ340 0 18) (fun v342 => wf_ μ340 0 18 (v342 + 1) (fun μ347 => some μ347))) ht (hz 118)
    obtain ⟨f1, f2⟩ := fr 118 κ a3
    have hfin := c_fin (k := 3) (ν' := st_ κ 0 18 (o + 1)) hx hc ht (by decide) hcc (by rw [n0 _ _ (by decide)]; exact a2.2.1) (by rw [n0 _ _ (by decide), n6]; exact a2.2.2) (by decide) (fun μ' hok hv q0 q1 q2 q3 => ?_)
    · obtain ⟨μ', g1, g2⟩ := hfin
      refine ⟨μ', _, ?_, f1, e18 κ, g1, g2⟩
      rw [he, eG, t9_2]
      exact a1.trans (eJ κ a2.1.2.2)
    · have hl := nl_ (n := 2) (by decide) _ hok
      have hr := mt_v (T := T) (L := L) (fk9_ 3) a
      have r0 : (mt_ T L (fk9_ 3) a).2.2.getD 0 0 ∈ (mt_ T L (fk9_ 3) a).2.2 := by
        rw [List.getD_eq_getElem?_getD, List.getElem?_eq_getElem (by omega)]
        exact List.getElem_mem _
      have s0 := hv 0 (by omega)
      have i0 : 4 * o + 1 + ((0 : Nat) : Int) = 4 * o + 1 := by omega
      rw [i0] at s0
      have b0 := hr _ r0
      have r1 : (mt_ T L (fk9_ 3) a).2.2.getD 1 0 ∈ (mt_ T L (fk9_ 3) a).2.2 := by
        rw [List.getD_eq_getElem?_getD, List.getElem?_eq_getElem (by omega)]
        exact List.getElem_mem _
      have s1 := hv 1 (by omega)
      have i1 : 4 * o + 1 + ((1 : Nat) : Int) = 4 * o + 2 := by omega
      rw [i1] at s1
      have b1 := hr _ r1
      exact Or.inr (Or.inr (Or.inr (Or.inl ⟨q0, f2, ⟨(q1 (by omega)).trans s0.symm, by rw [s0]; exact b0.1, by rw [s0]; exact b0.2⟩, ⟨(q2 (by omega)).trans s1.symm, by rw [s1]; exact b1.1, by rw [s1]; exact b1.2⟩⟩)))
  have kind4 : (∀ j, 0 ≤ j → j < 10 → j ≠ 4 → (mt_ T L (fk9_ j) a).1 = false ∧ (mt_ T L (fk9_ j) a).2.1 ≤ (mt_ T L (fk9_ 4) a).2.1) → f_X12_readsOne ν = G 110 → ∃ μ' ν', f_X12_readsOne ν = some ν' ∧ g5_ o ν ν' ∧ ν' 0 18 = o + 1 ∧ f5_ o μ μ' ∧ ((f_X6_readOrder μ a = some (-15, μ') ∧ μ' 140 5 = o + 1 ∧ ∃ p, μ' 140 7 = p ∧ ν' 0 16 = p ∧ ν' 0 19 = 0 ∧ a + 3 ≤ p ∧ p ≤ L ∧ (L ≤ p ∨ T p = 59) ∧ or9_ μ' ν' o) ∨ (∃ p, f_X6_readOrder μ a = some (p, μ') ∧ a ≤ p ∧ p ≤ L ∧ ν' 0 16 = p ∧ (ν' 0 19 = 1 ∨ (ν' 0 19 = 0 ∧ p < L ∧ T p ≠ 59)))) := fun hcc he => by
    obtain ⟨κ, a1, a2, a3⟩ := zq_4 (J := fun μ340 => nm_ (μ340 0 18) (fun v342 => wf_ μ340 0 18 (v342 + 1) (fun μ347 => some μ347))) ht (hz 110)
    obtain ⟨f1, f2⟩ := fr 110 κ a3
    have hfin := c_fin (k := 4) (ν' := st_ κ 0 18 (o + 1)) hx hc ht (by decide) hcc (by rw [n0 _ _ (by decide)]; exact a2.2.1) (by rw [n0 _ _ (by decide), n6]; exact a2.2.2) (by decide) (fun μ' hok hv q0 q1 q2 q3 => ?_)
    · obtain ⟨μ', g1, g2⟩ := hfin
      refine ⟨μ', _, ?_, f1, e18 κ, g1, g2⟩
      rw [he, eG, t9_3]
      exact a1.trans (eJ κ a2.1.2.2)
    · have hl := nl_ (n := 2) (by decide) _ hok
      have hr := mt_v (T := T) (L := L) (fk9_ 4) a
      have r0 : (mt_ T L (fk9_ 4) a).2.2.getD 0 0 ∈ (mt_ T L (fk9_ 4) a).2.2 := by
        rw [List.getD_eq_getElem?_getD, List.getElem?_eq_getElem (by omega)]
        exact List.getElem_mem _
      have s0 := hv 0 (by omega)
      have i0 : 4 * o + 1 + ((0 : Nat) : Int) = 4 * o + 1 := by omega
      rw [i0] at s0
      have b0 := hr _ r0
      have r1 : (mt_ T L (fk9_ 4) a).2.2.getD 1 0 ∈ (mt_ T L (fk9_ 4) a).2.2 := by
        rw [List.getD_eq_getElem?_getD, List.getElem?_eq_getElem (by omega)]
        exact List.getElem_mem _
      have s1 := hv 1 (by omega)
      have i1 : 4 * o + 1 + ((1 : Nat) : Int) = 4 * o + 2 := by omega
      rw [i1] at s1
      have b1 := hr _ r1
      exact Or.inr (Or.inr (Or.inr (Or.inr (Or.inl ⟨q0, f2, ⟨(q1 (by omega)).trans s0.symm, by rw [s0]; exact b0.1, by rw [s0]; exact b0.2⟩, ⟨(q2 (by omega)).trans s1.symm, by rw [s1]; exact b1.1, by rw [s1]; exact b1.2⟩⟩))))
  have kind5 : (∀ j, 0 ≤ j → j < 10 → j ≠ 5 → (mt_ T L (fk9_ j) a).1 = false ∧ (mt_ T L (fk9_ j) a).2.1 ≤ (mt_ T L (fk9_ 5) a).2.1) → f_X12_readsOne ν = G 100 → ∃ μ' ν', f_X12_readsOne ν = some ν' ∧ g5_ o ν ν' ∧ ν' 0 18 = o + 1 ∧ f5_ o μ μ' ∧ ((f_X6_readOrder μ a = some (-15, μ') ∧ μ' 140 5 = o + 1 ∧ ∃ p, μ' 140 7 = p ∧ ν' 0 16 = p ∧ ν' 0 19 = 0 ∧ a + 3 ≤ p ∧ p ≤ L ∧ (L ≤ p ∨ T p = 59) ∧ or9_ μ' ν' o) ∨ (∃ p, f_X6_readOrder μ a = some (p, μ') ∧ a ≤ p ∧ p ≤ L ∧ ν' 0 16 = p ∧ (ν' 0 19 = 1 ∨ (ν' 0 19 = 0 ∧ p < L ∧ T p ≠ 59)))) := fun hcc he => by
    obtain ⟨κ, a1, a2, a3⟩ := zq_5 (J := fun μ340 => nm_ (μ340 0 18) (fun v342 => wf_ μ340 0 18 (v342 + 1) (fun μ347 => some μ347))) ht (hz 100)
    obtain ⟨f1, f2⟩ := fr 100 κ a3
    have hfin := c_fin (k := 5) (ν' := st_ κ 0 18 (o + 1)) hx hc ht (by decide) hcc (by rw [n0 _ _ (by decide)]; exact a2.2.1) (by rw [n0 _ _ (by decide), n6]; exact a2.2.2) (by decide) (fun μ' hok hv q0 q1 q2 q3 => ?_)
    · obtain ⟨μ', g1, g2⟩ := hfin
      refine ⟨μ', _, ?_, f1, e18 κ, g1, g2⟩
      rw [he, eG, t9_4]
      exact a1.trans (eJ κ a2.1.2.2)
    · have hl := nl_ (n := 1) (by decide) _ hok
      have hr := mt_v (T := T) (L := L) (fk9_ 5) a
      have r0 : (mt_ T L (fk9_ 5) a).2.2.getD 0 0 ∈ (mt_ T L (fk9_ 5) a).2.2 := by
        rw [List.getD_eq_getElem?_getD, List.getElem?_eq_getElem (by omega)]
        exact List.getElem_mem _
      have s0 := hv 0 (by omega)
      have i0 : 4 * o + 1 + ((0 : Nat) : Int) = 4 * o + 1 := by omega
      rw [i0] at s0
      have b0 := hr _ r0
      exact Or.inr (Or.inr (Or.inr (Or.inr (Or.inr (Or.inl ⟨q0, f2, ⟨(q1 (by omega)).trans s0.symm, by rw [s0]; exact b0.1, by rw [s0]; exact b0.2⟩⟩)))))
  have kind6 : (∀ j, 0 ≤ j → j < 10 → j ≠ 6 → (mt_ T L (fk9_ j) a).1 = false ∧ (mt_ T L (fk9_ j) a).2.1 ≤ (mt_ T L (fk9_ 6) a).2.1) → f_X12_readsOne ν = G 119 → ∃ μ' ν', f_X12_readsOne ν = some ν' ∧ g5_ o ν ν' ∧ ν' 0 18 = o + 1 ∧ f5_ o μ μ' ∧ ((f_X6_readOrder μ a = some (-15, μ') ∧ μ' 140 5 = o + 1 ∧ ∃ p, μ' 140 7 = p ∧ ν' 0 16 = p ∧ ν' 0 19 = 0 ∧ a + 3 ≤ p ∧ p ≤ L ∧ (L ≤ p ∨ T p = 59) ∧ or9_ μ' ν' o) ∨ (∃ p, f_X6_readOrder μ a = some (p, μ') ∧ a ≤ p ∧ p ≤ L ∧ ν' 0 16 = p ∧ (ν' 0 19 = 1 ∨ (ν' 0 19 = 0 ∧ p < L ∧ T p ≠ 59)))) := fun hcc he => by
    obtain ⟨κ, a1, a2, a3⟩ := zq_6 (J := fun μ340 => nm_ (μ340 0 18) (fun v342 => wf_ μ340 0 18 (v342 + 1) (fun μ347 => some μ347))) ht (hz 119)
    obtain ⟨f1, f2⟩ := fr 119 κ a3
    have hfin := c_fin (k := 6) (ν' := st_ κ 0 18 (o + 1)) hx hc ht (by decide) hcc (by rw [n0 _ _ (by decide)]; exact a2.2.1) (by rw [n0 _ _ (by decide), n6]; exact a2.2.2) (by decide) (fun μ' hok hv q0 q1 q2 q3 => ?_)
    · obtain ⟨μ', g1, g2⟩ := hfin
      refine ⟨μ', _, ?_, f1, e18 κ, g1, g2⟩
      rw [he, eG, t9_5]
      exact a1.trans (eJ κ a2.1.2.2)
    · have hl := nl_ (n := 2) (by decide) _ hok
      have hr := mt_v (T := T) (L := L) (fk9_ 6) a
      have r0 : (mt_ T L (fk9_ 6) a).2.2.getD 0 0 ∈ (mt_ T L (fk9_ 6) a).2.2 := by
        rw [List.getD_eq_getElem?_getD, List.getElem?_eq_getElem (by omega)]
        exact List.getElem_mem _
      have s0 := hv 0 (by omega)
      have i0 : 4 * o + 1 + ((0 : Nat) : Int) = 4 * o + 1 := by omega
      rw [i0] at s0
      have b0 := hr _ r0
      have r1 : (mt_ T L (fk9_ 6) a).2.2.getD 1 0 ∈ (mt_ T L (fk9_ 6) a).2.2 := by
        rw [List.getD_eq_getElem?_getD, List.getElem?_eq_getElem (by omega)]
        exact List.getElem_mem _
      have s1 := hv 1 (by omega)
      have i1 : 4 * o + 1 + ((1 : Nat) : Int) = 4 * o + 2 := by omega
      rw [i1] at s1
      have b1 := hr _ r1
      exact Or.inr (Or.inr (Or.inr (Or.inr (Or.inr (Or.inr (Or.inl ⟨q0, f2, ⟨(q1 (by omega)).trans s0.symm, by rw [s0]; exact b0.1, by rw [s0]; exact b0.2⟩, ⟨(q2 (by omega)).trans s1.symm, by rw [s1]; exact b1.1, by rw [s1]; exact b1.2⟩⟩))))))
  have kind7 : (∀ j, 0 ≤ j → j < 10 → j ≠ 7 → (mt_ T L (fk9_ j) a).1 = false ∧ (mt_ T L (fk9_ j) a).2.1 ≤ (mt_ T L (fk9_ 7) a).2.1) → f_X12_readsOne ν = G 114 → ∃ μ' ν', f_X12_readsOne ν = some ν' ∧ g5_ o ν ν' ∧ ν' 0 18 = o + 1 ∧ f5_ o μ μ' ∧ ((f_X6_readOrder μ a = some (-15, μ') ∧ μ' 140 5 = o + 1 ∧ ∃ p, μ' 140 7 = p ∧ ν' 0 16 = p ∧ ν' 0 19 = 0 ∧ a + 3 ≤ p ∧ p ≤ L ∧ (L ≤ p ∨ T p = 59) ∧ or9_ μ' ν' o) ∨ (∃ p, f_X6_readOrder μ a = some (p, μ') ∧ a ≤ p ∧ p ≤ L ∧ ν' 0 16 = p ∧ (ν' 0 19 = 1 ∨ (ν' 0 19 = 0 ∧ p < L ∧ T p ≠ 59)))) := fun hcc he => by
    obtain ⟨κ, a1, a2, a3⟩ := zq_7 (J := fun μ340 => nm_ (μ340 0 18) (fun v342 => wf_ μ340 0 18 (v342 + 1) (fun μ347 => some μ347))) ht (hz 114)
    obtain ⟨f1, f2⟩ := fr 114 κ a3
    have hfin := c_fin (k := 7) (ν' := st_ κ 0 18 (o + 1)) hx hc ht (by decide) hcc (by rw [n0 _ _ (by decide)]; exact a2.2.1) (by rw [n0 _ _ (by decide), n6]; exact a2.2.2) (by decide) (fun μ' hok hv q0 q1 q2 q3 => ?_)
    · obtain ⟨μ', g1, g2⟩ := hfin
      refine ⟨μ', _, ?_, f1, e18 κ, g1, g2⟩
      rw [he, eG, t9_6]
      exact a1.trans (eJ κ a2.1.2.2)
    · skip
      exact Or.inr (Or.inr (Or.inr (Or.inr (Or.inr (Or.inr (Or.inr (Or.inl ⟨q0, f2⟩)))))))
  have kind8 : (∀ j, 0 ≤ j → j < 10 → j ≠ 8 → (mt_ T L (fk9_ j) a).1 = false ∧ (mt_ T L (fk9_ j) a).2.1 ≤ (mt_ T L (fk9_ 8) a).2.1) → f_X12_readsOne ν = G 115 → ∃ μ' ν', f_X12_readsOne ν = some ν' ∧ g5_ o ν ν' ∧ ν' 0 18 = o + 1 ∧ f5_ o μ μ' ∧ ((f_X6_readOrder μ a = some (-15, μ') ∧ μ' 140 5 = o + 1 ∧ ∃ p, μ' 140 7 = p ∧ ν' 0 16 = p ∧ ν' 0 19 = 0 ∧ a + 3 ≤ p ∧ p ≤ L ∧ (L ≤ p ∨ T p = 59) ∧ or9_ μ' ν' o) ∨ (∃ p, f_X6_readOrder μ a = some (p, μ') ∧ a ≤ p ∧ p ≤ L ∧ ν' 0 16 = p ∧ (ν' 0 19 = 1 ∨ (ν' 0 19 = 0 ∧ p < L ∧ T p ≠ 59)))) := fun hcc he => by
    obtain ⟨κ, a1, a2, a3⟩ := zq_8 (J := fun μ340 => nm_ (μ340 0 18) (fun v342 => wf_ μ340 0 18 (v342 + 1) (fun μ347 => some μ347))) ht (hz 115)
    obtain ⟨f1, f2⟩ := fr 115 κ a3
    have hfin := c_fin (k := 8) (ν' := st_ κ 0 18 (o + 1)) hx hc ht (by decide) hcc (by rw [n0 _ _ (by decide)]; exact a2.2.1) (by rw [n0 _ _ (by decide), n6]; exact a2.2.2) (by decide) (fun μ' hok hv q0 q1 q2 q3 => ?_)
    · obtain ⟨μ', g1, g2⟩ := hfin
      refine ⟨μ', _, ?_, f1, e18 κ, g1, g2⟩
      rw [he, eG, t9_7]
      exact a1.trans (eJ κ a2.1.2.2)
    · have hl := nl_ (n := 1) (by decide) _ hok
      have hr := mt_v (T := T) (L := L) (fk9_ 8) a
      have r0 : (mt_ T L (fk9_ 8) a).2.2.getD 0 0 ∈ (mt_ T L (fk9_ 8) a).2.2 := by
        rw [List.getD_eq_getElem?_getD, List.getElem?_eq_getElem (by omega)]
        exact List.getElem_mem _
      have s0 := hv 0 (by omega)
      have i0 : 4 * o + 1 + ((0 : Nat) : Int) = 4 * o + 1 := by omega
      rw [i0] at s0
      have b0 := hr _ r0
      exact Or.inr (Or.inr (Or.inr (Or.inr (Or.inr (Or.inr (Or.inr (Or.inr (Or.inl ⟨q0, f2, ⟨(q1 (by omega)).trans s0.symm, by rw [s0]; exact b0.1, by rw [s0]; exact b0.2⟩⟩))))))))
  have kind9 : (∀ j, 0 ≤ j → j < 10 → j ≠ 9 → (mt_ T L (fk9_ j) a).1 = false ∧ (mt_ T L (fk9_ j) a).2.1 ≤ (mt_ T L (fk9_ 9) a).2.1) → f_X12_readsOne ν = G 105 → ∃ μ' ν', f_X12_readsOne ν = some ν' ∧ g5_ o ν ν' ∧ ν' 0 18 = o + 1 ∧ f5_ o μ μ' ∧ ((f_X6_readOrder μ a = some (-15, μ') ∧ μ' 140 5 = o + 1 ∧ ∃ p, μ' 140 7 = p ∧ ν' 0 16 = p ∧ ν' 0 19 = 0 ∧ a + 3 ≤ p ∧ p ≤ L ∧ (L ≤ p ∨ T p = 59) ∧ or9_ μ' ν' o) ∨ (∃ p, f_X6_readOrder μ a = some (p, μ') ∧ a ≤ p ∧ p ≤ L ∧ ν' 0 16 = p ∧ (ν' 0 19 = 1 ∨ (ν' 0 19 = 0 ∧ p < L ∧ T p ≠ 59)))) := fun hcc he => by
    obtain ⟨κ, a1, a2, a3⟩ := zq_9 (J := fun μ340 => nm_ (μ340 0 18) (fun v342 => wf_ μ340 0 18 (v342 + 1) (fun μ347 => some μ347))) ht (hz 105)
    obtain ⟨f1, f2⟩ := fr 105 κ a3
    have hfin := c_fin (k := 9) (ν' := st_ κ 0 18 (o + 1)) hx hc ht (by decide) hcc (by rw [n0 _ _ (by decide)]; exact a2.2.1) (by rw [n0 _ _ (by decide), n6]; exact a2.2.2) (by decide) (fun μ' hok hv q0 q1 q2 q3 => ?_)
    · obtain ⟨μ', g1, g2⟩ := hfin
      refine ⟨μ', _, ?_, f1, e18 κ, g1, g2⟩
      rw [he, eG, t9_8]
      exact a1.trans (eJ κ a2.1.2.2)
    · skip
      exact Or.inr (Or.inr (Or.inr (Or.inr (Or.inr (Or.inr (Or.inr (Or.inr (Or.inr (⟨q0, f2⟩)))))))))
  have dflt : (∀ j, 0 ≤ j → j < 10 → mt_ T L (fk9_ j) a = (false, a, [])) → ∀ v : Int, rg_ v → v ≠ 117 ∧ v ≠ 116 ∧ v ≠ 118 ∧ v ≠ 110 ∧ v ≠ 100 ∧ v ≠ 119 ∧ v ≠ 114 ∧ v ≠ 115 ∧ v ≠ 105 → f_X12_readsOne ν = G v → ∃ μ' ν', f_X12_readsOne ν = some ν' ∧ g5_ o ν ν' ∧ ν' 0 18 = o + 1 ∧ f5_ o μ μ' ∧ ((f_X6_readOrder μ a = some (-15, μ') ∧ μ' 140 5 = o + 1 ∧ ∃ p, μ' 140 7 = p ∧ ν' 0 16 = p ∧ ν' 0 19 = 0 ∧ a + 3 ≤ p ∧ p ≤ L ∧ (L ≤ p ∨ T p = 59) ∧ or9_ μ' ν' o) ∨ (∃ p, f_X6_readOrder μ a = some (p, μ') ∧ a ≤ p ∧ p ≤ L ∧ ν' 0 16 = p ∧ (ν' 0 19 = 1 ∨ (ν' 0 19 = 0 ∧ p < L ∧ T p ≠ 59)))) := fun hno v hv hne he => by
    obtain ⟨e1, e2⟩ := e_ro hx ha.1 ha.2 hc (by omega)
    obtain ⟨μ', M, d1, d2, d3, d4⟩ := e2 (fun j j0 j1 q => by
      have w := q.1
      rw [hno j j0 j1] at w
      exact (Bool.false_ne_true w).elim)
    have hM : M = a := by
      rcases d4 with z | ⟨j, j0, j1, j2⟩
      · exact z
      · rw [hno j j0 j1] at j2
        exact j2
    have fz1 : fz_ o (st_ ν 6 (4 * o + 0) v) (st_ (st_ ν 6 (4 * o + 0) v) 0 19 1) := ⟨fun q q0 q1 => st_n q0, fun j j0 j1 => by rw [st_s, if_neg j1], fun i hi => by rw [st_n (by decide)]⟩
    obtain ⟨f1, f2⟩ := fr v _ fz1
    refine ⟨μ', _, ?_, f1, e18 _, d2, Or.inr ⟨M, d1, d3.1, by omega, ?_, Or.inl ?_⟩⟩
    · rw [he, eG, t9_d hv hne, wz_e (Or.inr rfl)]
      exact eJ _ (by rw [st_s, if_neg (by decide), st_n (by decide)]; exact h18)
    · rw [n0 _ _ (by decide), st_s, if_neg (by decide), st_n (by decide), hM]
      exact h16
    · rw [n0 _ _ (by decide), st_s, if_pos rfl]
  have urn : a < L ∧ T a = 117 → ¬ (a + 1 < L ∧ T (a + 1) = 110) → f_X12_readsOne ν = G 117 → ∃ μ' ν', f_X12_readsOne ν = some ν' ∧ g5_ o ν ν' ∧ ν' 0 18 = o + 1 ∧ f5_ o μ μ' ∧ ((f_X6_readOrder μ a = some (-15, μ') ∧ μ' 140 5 = o + 1 ∧ ∃ p, μ' 140 7 = p ∧ ν' 0 16 = p ∧ ν' 0 19 = 0 ∧ a + 3 ≤ p ∧ p ≤ L ∧ (L ≤ p ∨ T p = 59) ∧ or9_ μ' ν' o) ∨ (∃ p, f_X6_readOrder μ a = some (p, μ') ∧ a ≤ p ∧ p ≤ L ∧ ν' 0 16 = p ∧ (ν' 0 19 = 1 ∨ (ν' 0 19 = 0 ∧ p < L ∧ T p ≠ 59)))) := fun h1 h2 he => by
    have zz := zq_u (J := fun μ340 => nm_ (μ340 0 18) (fun v342 => wf_ μ340 0 18 (v342 + 1) (fun μ347 => some μ347))) ht (hz 117)
    rw [show fkM_ 0 = fk9_ 0 from rfl, show fkM_ 1 = fk9_ 1 from rfl] at zz
    obtain ⟨κ, a1, a3, a4, a5, a6, a7⟩ := zz
    obtain ⟨f1, f2⟩ := fr 117 κ a3
    have eR : f_X12_readsOne ν = some (st_ κ 0 18 (o + 1)) := by
      rw [he, eG, t9_0]
      refine a1.trans (eJ κ ?_)
      rw [a3.2.1 18 (by decide) (by decide), st_n (by decide)]
      exact h18
    obtain ⟨e1, e2⟩ := e_ro hx ha.1 ha.2 hc (by omega)
    have hb0 := mt_b (T := T) (L := L) (fk9_ 0) a
    have hb1 := mt_b (T := T) (L := L) (fk9_ 1) a
    have g1 : a + 1 ≤ (mt_ T L (fk9_ 1) a).2.1 := by
      rw [y9_1 h1]
      exact (mt_b _ _).1
    have oth : ∀ j, 2 ≤ j → j < 10 → (mt_ T L (fk9_ j) a).1 = false ∧ (mt_ T L (fk9_ j) a).2.1 ≤ (mt_ T L (fk9_ 1) a).2.1 := by
      intro j j0 j1
      rcases (show j = 2 ∨ j = 3 ∨ j = 4 ∨ j = 5 ∨ j = 6 ∨ j = 7 ∨ j = 8 ∨ j = 9 by omega) with rfl | rfl | rfl | rfl | rfl | rfl | rfl | rfl
      · exact cl9 (no9_2 (by omega)) hb1.1
      · exact cl9 (n9_3 h1 h2) g1
      · exact cl9 (no9_4 (by omega)) hb1.1
      · exact cl9 (no9_5 (by omega)) hb1.1
      · exact cl9 (no9_6 (by omega)) hb1.1
      · exact cl9 (no9_7 (by omega)) hb1.1
      · exact cl9 (no9_8 (by omega)) hb1.1
      · exact cl9 (no9_9 (by omega)) hb1.1
    have ek0 : (st_ κ 0 18 (o + 1)) 0 19 = κ 0 19 := n0 _ _ (by decide)
    have ek6 : (st_ κ 0 18 (o + 1)) 0 16 = κ 0 16 := n0 _ _ (by decide)
    by_cases s1 : (mt_ T L (fk9_ 1) a).1 = true
    · -- with its sign
      obtain ⟨u1, u2⟩ := a5 s1
      obtain ⟨v1, v2, v3⟩ := a7 s1
      have n9 : ¬ gd9_ T L a 0 := fun q => by
        have w := q.2
        omega
      have hw0 : κ 0 19 = 0 := by rw [a4, if_pos v1]
      by_cases hg : gd9_ T L a 1
      · obtain ⟨μ', d1, d2, d3, d4, d5, d6, d7, d8⟩ := e1 1 (by decide) (by decide) hg (fun j j0 j1 => by rw [show j = 0 by omega]; exact n9)
        have hb3 := hb1.2.2 s1
        have hl3 : (fk9_ 1).length = 4 := rfl
        refine ⟨μ', _, eR, f1, e18 κ, d2, Or.inl ⟨d1, d3, _, d4, by rw [ek6]; exact u1, by rw [ek0]; exact hw0, by omega, hb1.2.1 ha.2, hg.2, Or.inr (Or.inl ⟨d5, f2, by rw [n6]; exact u2⟩)⟩⟩
      · obtain ⟨μ', M, d1, d2, d3, d4⟩ := e2 (fun j j0 j1 q => by
          by_cases q0 : j = 0
          · rw [q0] at q
            exact n9 q
          · by_cases q1 : j = 1
            · rw [q1] at q
              exact hg q
            · have w := (oth j (by omega) j1).1
              rw [q.1] at w
              exact absurd w (by decide))
        have hM : M = (mt_ T L (fk9_ 1) a).2.1 := by
          have q1 := d3.2 1 (by decide) (by decide)
          have q2 := d3.2 0 (by decide) (by decide)
          have e1f : fk9_ 1 = fk9_ 0 ++ [33] := rfl
          have m1 := (mt_app (T := T) (L := L) (fk9_ 0) [33] a).1 v1
          rw [← e1f] at m1
          have m2 := (mt_b (T := T) (L := L) [33] (mt_ T L (fk9_ 0) a).2.1).1
          have m3 : (mt_ T L (fk9_ 1) a).2.1 = (mt_ T L [33] (mt_ T L (fk9_ 0) a).2.1).2.1 := by rw [m1]
          rcases d4 with z | ⟨j, j0, j1, j2⟩
          · omega
          · by_cases q0 : j = 0
            · rw [q0] at j2
              omega
            · by_cases q3 : j = 1
              · rw [q3] at j2
                exact j2
              · have w := (oth j (by omega) j1).2
                omega
        refine ⟨μ', _, eR, f1, e18 κ, d2, Or.inr ⟨M, d1, d3.1, by rw [hM]; exact hb1.2.1 ha.2, by rw [ek6, hM]; exact u1, Or.inr ⟨by rw [ek0]; exact hw0, ?_, fun q => hg ⟨s1, Or.inr (by rw [← hM]; exact q)⟩⟩⟩⟩
        have q : ¬ L ≤ (mt_ T L (fk9_ 1) a).2.1 := fun q => hg ⟨s1, Or.inl q⟩
        omega
    · -- without
      have s1f := Bool.eq_false_iff.mpr s1
      obtain ⟨u1, u2, u3⟩ := a6 s1f
      have n9 : ¬ gd9_ T L a 1 := fun q => s1 q.1
      by_cases hg : gd9_ T L a 0
      · obtain ⟨μ', d1, d2, d3, d4, d5, d6, d7, d8⟩ := e1 0 (by decide) (by decide) hg (fun j j0 j1 => by omega)
        have hb3 := hb0.2.2 hg.1
        have hl3 : (fk9_ 0).length = 3 := rfl
        refine ⟨μ', _, eR, f1, e18 κ, d2, Or.inl ⟨d1, d3, _, d4, by rw [ek6]; exact u2, by rw [ek0, a4, if_pos hg.1], by omega, hb0.2.1 ha.2, hg.2, Or.inl ⟨d5, f2, by rw [n6]; exact u3⟩⟩⟩
      · obtain ⟨μ', M, d1, d2, d3, d4⟩ := e2 (fun j j0 j1 q => by
          by_cases q0 : j = 0
          · rw [q0] at q
            exact hg q
          · by_cases q1 : j = 1
            · rw [q1] at q
              exact n9 q
            · have w := (oth j (by omega) j1).1
              rw [q.1] at w
              exact absurd w (by decide))
        have hM : M = (mt_ T L (fk9_ 0) a).2.1 := by
          have q1 := d3.2 1 (by decide) (by decide)
          have q2 := d3.2 0 (by decide) (by decide)
          rcases d4 with z | ⟨j, j0, j1, j2⟩
          · omega
          · by_cases q0 : j = 0
            · rw [q0] at j2
              exact j2
            · by_cases q3 : j = 1
              · rw [q3] at j2
                omega
              · have w := (oth j (by omega) j1).2
                omega
        refine ⟨μ', _, eR, f1, e18 κ, d2, Or.inr ⟨M, d1, d3.1, by rw [hM]; exact hb0.2.1 ha.2, by rw [ek6, hM]; exact u2, ?_⟩⟩
        rw [ek0, a4]
        by_cases hok : (mt_ T L (fk9_ 0) a).1 = true
        · rw [if_pos hok]
          refine Or.inr ⟨rfl, ?_, fun q => hg ⟨hok, Or.inr (by rw [← hM]; exact q)⟩⟩
          have q : ¬ L ≤ (mt_ T L (fk9_ 0) a).2.1 := fun q => hg ⟨hok, Or.inl q⟩
          omega
        · rw [if_neg hok]
          exact Or.inl rfl
  clear eG
  have eh := e_here h5 h17 h16 ha ht.1.2
  have en := e_next h5 h17 h16 ha ht.1.2
  obtain ⟨c, hcH⟩ : ∃ c : Int, c = if a < L then T a else -11 := ⟨_, rfl⟩
  obtain ⟨nx, hnx⟩ : ∃ c : Int, c = if a + 1 < L then T (a + 1) else -11 := ⟨_, rfl⟩
  rw [← hcH] at eh
  rw [← hnx] at en
  rw [eh, bd_some] at e0
  simp only [jn_e] at e0
  have hcr : (a < L ∧ c = T a ∧ 32 ≤ c ∧ c ≤ 126) ∨ (¬ a < L ∧ c = -11) := by
    by_cases q : a < L
    · rw [if_pos q] at hcH
      have := ht.2.1 a ha.1 q
      exact Or.inl ⟨q, hcH, by omega, by omega⟩
    · rw [if_neg q] at hcH
      exact Or.inr ⟨q, hcH⟩
  have hnr : (a + 1 < L ∧ nx = T (a + 1) ∧ 32 ≤ nx ∧ nx ≤ 126) ∨ (¬ a + 1 < L ∧ nx = -11) := by
    by_cases q : a + 1 < L
    · rw [if_pos q] at hnx
      have := ht.2.1 (a + 1) (by omega) q
      exact Or.inl ⟨q, hnx, by omega, by omega⟩
    · rw [if_neg q] at hnx
      exact Or.inr ⟨q, hnx⟩
  have hrc : rg_ c := by omega
  have hrn : rg_ nx := by omega
  clear hcH hnx
  rw [en, bd_some, bd_some] at e0
  by_cases c117 : c = 117
  · rw [eq_y c117] at e0
    by_cases n110 : nx = 110
    · rw [eq_y n110] at e0
      exact kind3 (cc_118 (by omega) (by omega)) e0
    · rw [eq_n hrn (by decide) n110, eq_n hrc (by decide) (by omega), c117] at e0
      exact urn (by omega) (by omega) e0
  · rw [eq_n hrc (by decide) c117] at e0
    by_cases c114 : c = 114
    · rw [eq_y c114] at e0
      by_cases n105 : nx = 105
      · rw [eq_y n105] at e0
        exact kind9 (cc_105 (by omega) (by omega)) e0
      · rw [eq_n hrn (by decide) n105, c114] at e0
        exact kind7 (cc_114 (by omega) (by omega)) e0
    · rw [eq_n hrc (by decide) c114] at e0
      by_cases c116 : c = 116
      · rw [c116] at e0
        exact kind2 (cc_116 (by omega)) e0
      by_cases c110 : c = 110
      · rw [c110] at e0
        exact kind4 (cc_110 (by omega)) e0
      by_cases c100 : c = 100
      · rw [c100] at e0
        exact kind5 (cc_100 (by omega)) e0
      by_cases c119 : c = 119
      · rw [c119] at e0
        exact kind6 (cc_119 (by omega)) e0
      by_cases c115 : c = 115
      · rw [c115] at e0
        exact kind8 (cc_115 (by omega)) e0
      by_cases c118 : c = 118
      · rw [c118] at e0
        exact kind3 (cc_118v (by omega)) e0
      by_cases c105 : c = 105
      · rw [c105] at e0
        exact kind9 (cc_105i (by omega)) e0
      refine dflt (fun j j0 j1 => ?_) c hrc (by omega) e0
      rcases (show j = 0 ∨ j = 1 ∨ j = 2 ∨ j = 3 ∨ j = 4 ∨ j = 5 ∨ j = 6 ∨ j = 7 ∨ j = 8 ∨ j = 9 by omega) with rfl | rfl | rfl | rfl | rfl | rfl | rfl | rfl | rfl | rfl
      · exact no9_0 (by omega)
      · exact no9_1 (by omega)
      · exact no9_2 (by omega)
      · exact no9_3 (by omega)
      · exact no9_4 (by omega)
      · exact no9_5 (by omega)
      · exact no9_6 (by omega)
      · exact no9_7 (by omega)
      · exact no9_8 (by omega)
      · exact no9_9 (by omega)
end OR
