/-! a heap is copied -/
theorem ac_x {α : Type} {μ : mu_T} {q1 q2 n : Nat} {len : Int} (hl : len = n) {f : mu_T → Option α} : ∃ μ1 : mu_T, ac_ μ q1 n 0 q2 n 0 len f = f μ1 ∧ (∀ q, q ≠ q2 → μ1 q = μ q) ∧ (∀ k : Int, 0 ≤ k → k < n → μ1 q2 k = μ q1 k) := by
  subst hl
  refine ⟨_, if_pos ⟨by omega, by omega, by omega, by omega, by omega⟩, fun q hq => um_ne hq, fun k k0 k1 => ?_⟩
  rw [um_self, if_pos ⟨by omega, by omega⟩]
  congr 1
  omega
theorem wf_x {α : Type} {μ : mu_T} {q2 : Nat} {i v : Int} {f : mu_T → Option α} : ∃ μ1 : mu_T, wf_ μ q2 i v f = f μ1 ∧ (∀ q, q ≠ q2 → μ1 q = μ q) ∧ μ1 q2 i = v ∧ (∀ k : Int, k ≠ i → μ1 q2 k = μ q2 k) :=
  ⟨_, rfl, fun q hq => st_n hq, by rw [st_s, if_pos rfl], fun k hk => by rw [st_s, if_neg hk]⟩
section CP
variable {s : Int → Int} {μ : mu_T}
theorem c_copy {i j : Nat} (hij : i ≠ j) : ∃ μ', f_X2_copyFrom_h0h0 μ i j = some μ' ∧ (∀ q : Nat, (q < 12 * i ∨ 12 * i + 12 ≤ q) → μ' q = μ q) ∧ (hr_ (fun r => μ (12 * j + r)) s → s 8 ≤ 24 → s 9 ≤ 24 → hr_ (fun r => μ' (12 * i + r)) s) := by
  unfold f_X2_copyFrom_h0h0
  obtain ⟨m1, e1, o1, v1⟩ := ac_x (α := mu_T) (μ := μ) (q1 := 12 * j + 1) (q2 := 12 * i + 1) (n := 96) (len := 96) rfl (f := _)
  rw [e1]
  obtain ⟨m2, e2, o2, v2⟩ := ac_x (α := mu_T) (μ := m1) (q1 := 12 * j + 2) (q2 := 12 * i + 2) (n := 24) (len := 24) rfl (f := _)
  rw [e2]
  obtain ⟨m3, e3, o3, v3⟩ := ac_x (α := mu_T) (μ := m2) (q1 := 12 * j + 3) (q2 := 12 * i + 3) (n := 24) (len := 24) rfl (f := _)
  rw [e3]
  obtain ⟨m4, e4, o4, v4⟩ := ac_x (α := mu_T) (μ := m3) (q1 := 12 * j + 4) (q2 := 12 * i + 4) (n := 24) (len := 24) rfl (f := _)
  rw [e4]
  obtain ⟨m5, e5, o5, v5⟩ := ac_x (α := mu_T) (μ := m4) (q1 := 12 * j + 5) (q2 := 12 * i + 5) (n := 24) (len := 24) rfl (f := _)
  rw [e5]
  obtain ⟨m6, e6, o6, v6⟩ := ac_x (α := mu_T) (μ := m5) (q1 := 12 * j + 6) (q2 := 12 * i + 6) (n := 6) (len := 6) rfl (f := _)
  rw [e6]
  obtain ⟨m7, e7, o7, v7⟩ := ac_x (α := mu_T) (μ := m6) (q1 := 12 * j + 7) (q2 := 12 * i + 7) (n := 12) (len := 12) rfl (f := _)
  rw [e7]
  unfold f_X9_copyFrom_h8h8
  obtain ⟨m8, e8, o8, v8⟩ := ac_x (α := mu_T) (μ := m7) (q1 := 12 * j + 9) (q2 := 12 * i + 9) (n := 24) (len := 24) rfl (f := _)
  rw [e8]
  rw [nm_q]
  obtain ⟨m9, e9, o9, v9, w9⟩ := wf_x (α := mu_T) (μ := m8) (q2 := 12 * i + 8) (i := 1) (v := m8 (12 * j + 8) 1) (f := _)
  rw [e9]
  rw [bd_some]
  unfold f_X9_copyFrom_h10h10
  obtain ⟨m10, e10, o10, v10⟩ := ac_x (α := mu_T) (μ := m9) (q1 := 12 * j + 11) (q2 := 12 * i + 11) (n := 24) (len := 24) rfl (f := _)
  rw [e10]
  rw [nm_q]
  obtain ⟨m11, e11, o11, v11, w11⟩ := wf_x (α := mu_T) (μ := m10) (q2 := 12 * i + 10) (i := 1) (v := m10 (12 * j + 10) 1) (f := _)
  rw [e11]
  rw [bd_some]
  rw [nm_q]
  obtain ⟨m12, e12, o12, v12, w12⟩ := wf_x (α := mu_T) (μ := m11) (q2 := 12 * i + 0) (i := 9) (v := m11 (12 * j + 0) 9) (f := _)
  rw [e12]
  rw [nm_q]
  obtain ⟨m13, e13, o13, v13, w13⟩ := wf_x (α := mu_T) (μ := m12) (q2 := 12 * i + 0) (i := 10) (v := m12 (12 * j + 0) 10) (f := _)
  rw [e13]
  rw [nm_q]
  obtain ⟨m14, e14, o14, v14, w14⟩ := wf_x (α := mu_T) (μ := m13) (q2 := 12 * i + 0) (i := 11) (v := m13 (12 * j + 0) 11) (f := _)
  rw [e14]
  rw [nm_q]
  obtain ⟨m15, e15, o15, v15, w15⟩ := wf_x (α := mu_T) (μ := m14) (q2 := 12 * i + 0) (i := 12) (v := m14 (12 * j + 0) 12) (f := _)
  rw [e15]
  rw [nm_q]
  obtain ⟨m16, e16, o16, v16, w16⟩ := wf_x (α := mu_T) (μ := m15) (q2 := 12 * i + 0) (i := 13) (v := m15 (12 * j + 0) 13) (f := _)
  rw [e16]
  rw [nm_q]
  obtain ⟨m17, e17, o17, v17, w17⟩ := wf_x (α := mu_T) (μ := m16) (q2 := 12 * i + 0) (i := 14) (v := m16 (12 * j + 0) 14) (f := _)
  rw [e17]
  rw [nm_q]
  obtain ⟨m18, e18, o18, v18, w18⟩ := wf_x (α := mu_T) (μ := m17) (q2 := 12 * i + 0) (i := 15) (v := m17 (12 * j + 0) 15) (f := _)
  rw [e18]
  rw [nm_q]
  obtain ⟨m19, e19, o19, v19, w19⟩ := wf_x (α := mu_T) (μ := m18) (q2 := 12 * i + 0) (i := 16) (v := m18 (12 * j + 0) 16) (f := _)
  rw [e19]
  refine ⟨m19, rfl, fun q hq => ?_, fun hr h8 h9 => ?_⟩
  · rw [o19 q (by omega), o18 q (by omega), o17 q (by omega), o16 q (by omega), o15 q (by omega), o14 q (by omega), o13 q (by omega), o12 q (by omega), o11 q (by omega), o10 q (by omega), o9 q (by omega), o8 q (by omega), o7 q (by omega), o6 q (by omega), o5 q (by omega), o4 q (by omega), o3 q (by omega), o2 q (by omega), o1 q (by omega)]
  · obtain ⟨r1, r2, r3, r4, r5, r6, r7, ⟨r8, r9⟩, ⟨r10, r11⟩, r12, r13, r14, r15, r16, r17, r18, r19⟩ := hr
    have g1 : ∀ k : Int, 0 ≤ k → k < 96 → m19 (12 * i + 1) k = μ (12 * j + 1) k := fun k k0 k1 => by
      rw [o19 (12 * i + 1) (by omega), o18 (12 * i + 1) (by omega), o17 (12 * i + 1) (by omega), o16 (12 * i + 1) (by omega), o15 (12 * i + 1) (by omega), o14 (12 * i + 1) (by omega), o13 (12 * i + 1) (by omega), o12 (12 * i + 1) (by omega), o11 (12 * i + 1) (by omega), o10 (12 * i + 1) (by omega), o9 (12 * i + 1) (by omega), o8 (12 * i + 1) (by omega), o7 (12 * i + 1) (by omega), o6 (12 * i + 1) (by omega), o5 (12 * i + 1) (by omega), o4 (12 * i + 1) (by omega), o3 (12 * i + 1) (by omega), o2 (12 * i + 1) (by omega), v1 k k0 k1]
    have g2 : ∀ k : Int, 0 ≤ k → k < 24 → m19 (12 * i + 2) k = μ (12 * j + 2) k := fun k k0 k1 => by
      rw [o19 (12 * i + 2) (by omega), o18 (12 * i + 2) (by omega), o17 (12 * i + 2) (by omega), o16 (12 * i + 2) (by omega), o15 (12 * i + 2) (by omega), o14 (12 * i + 2) (by omega), o13 (12 * i + 2) (by omega), o12 (12 * i + 2) (by omega), o11 (12 * i + 2) (by omega), o10 (12 * i + 2) (by omega), o9 (12 * i + 2) (by omega), o8 (12 * i + 2) (by omega), o7 (12 * i + 2) (by omega), o6 (12 * i + 2) (by omega), o5 (12 * i + 2) (by omega), o4 (12 * i + 2) (by omega), o3 (12 * i + 2) (by omega), v2 k k0 k1, o1 (12 * j + 2) (by omega)]
    have g3 : ∀ k : Int, 0 ≤ k → k < 24 → m19 (12 * i + 3) k = μ (12 * j + 3) k := fun k k0 k1 => by
      rw [o19 (12 * i + 3) (by omega), o18 (12 * i + 3) (by omega), o17 (12 * i + 3) (by omega), o16 (12 * i + 3) (by omega), o15 (12 * i + 3) (by omega), o14 (12 * i + 3) (by omega), o13 (12 * i + 3) (by omega), o12 (12 * i + 3) (by omega), o11 (12 * i + 3) (by omega), o10 (12 * i + 3) (by omega), o9 (12 * i + 3) (by omega), o8 (12 * i + 3) (by omega), o7 (12 * i + 3) (by omega), o6 (12 * i + 3) (by omega), o5 (12 * i + 3) (by omega), o4 (12 * i + 3) (by omega), v3 k k0 k1, o2 (12 * j + 3) (by omega), o1 (12 * j + 3) (by omega)]
    have g4 : ∀ k : Int, 0 ≤ k → k < 24 → m19 (12 * i + 4) k = μ (12 * j + 4) k := fun k k0 k1 => by
      rw [o19 (12 * i + 4) (by omega), o18 (12 * i + 4) (by omega), o17 (12 * i + 4) (by omega), o16 (12 * i + 4) (by omega), o15 (12 * i + 4) (by omega), o14 (12 * i + 4) (by omega), o13 (12 * i + 4) (by omega), o12 (12 * i + 4) (by omega), o11 (12 * i + 4) (by omega), o10 (12 * i + 4) (by omega), o9 (12 * i + 4) (by omega), o8 (12 * i + 4) (by omega), o7 (12 * i + 4) (by omega), o6 (12 * i + 4) (by omega), o5 (12 * i + 4) (by omega), v4 k k0 k1, o3 (12 * j + 4) (by omega), o2 (12 * j + 4) (by omega), o1 (12 * j + 4) (by omega)]
    have g5 : ∀ k : Int, 0 ≤ k → k < 24 → m19 (12 * i + 5) k = μ (12 * j + 5) k := fun k k0 k1 => by
      rw [o19 (12 * i + 5) (by omega), o18 (12 * i + 5) (by omega), o17 (12 * i + 5) (by omega), o16 (12 * i + 5) (by omega), o15 (12 * i + 5) (by omega), o14 (12 * i + 5) (by omega), o13 (12 * i + 5) (by omega), o12 (12 * i + 5) (by omega), o11 (12 * i + 5) (by omega), o10 (12 * i + 5) (by omega), o9 (12 * i + 5) (by omega), o8 (12 * i + 5) (by omega), o7 (12 * i + 5) (by omega), o6 (12 * i + 5) (by omega), v5 k k0 k1, o4 (12 * j + 5) (by omega), o3 (12 * j + 5) (by omega), o2 (12 * j + 5) (by omega), o1 (12 * j + 5) (by omega)]
    have g6 : ∀ k : Int, 0 ≤ k → k < 6 → m19 (12 * i + 6) k = μ (12 * j + 6) k := fun k k0 k1 => by
      rw [o19 (12 * i + 6) (by omega), o18 (12 * i + 6) (by omega), o17 (12 * i + 6) (by omega), o16 (12 * i + 6) (by omega), o15 (12 * i + 6) (by omega), o14 (12 * i + 6) (by omega), o13 (12 * i + 6) (by omega), o12 (12 * i + 6) (by omega), o11 (12 * i + 6) (by omega), o10 (12 * i + 6) (by omega), o9 (12 * i + 6) (by omega), o8 (12 * i + 6) (by omega), o7 (12 * i + 6) (by omega), v6 k k0 k1, o5 (12 * j + 6) (by omega), o4 (12 * j + 6) (by omega), o3 (12 * j + 6) (by omega), o2 (12 * j + 6) (by omega), o1 (12 * j + 6) (by omega)]
    have g7 : ∀ k : Int, 0 ≤ k → k < 12 → m19 (12 * i + 7) k = μ (12 * j + 7) k := fun k k0 k1 => by
      rw [o19 (12 * i + 7) (by omega), o18 (12 * i + 7) (by omega), o17 (12 * i + 7) (by omega), o16 (12 * i + 7) (by omega), o15 (12 * i + 7) (by omega), o14 (12 * i + 7) (by omega), o13 (12 * i + 7) (by omega), o12 (12 * i + 7) (by omega), o11 (12 * i + 7) (by omega), o10 (12 * i + 7) (by omega), o9 (12 * i + 7) (by omega), o8 (12 * i + 7) (by omega), v7 k k0 k1, o6 (12 * j + 7) (by omega), o5 (12 * j + 7) (by omega), o4 (12 * j + 7) (by omega), o3 (12 * j + 7) (by omega), o2 (12 * j + 7) (by omega), o1 (12 * j + 7) (by omega)]
    have g9 : ∀ k : Int, 0 ≤ k → k < 24 → m19 (12 * i + 9) k = μ (12 * j + 9) k := fun k k0 k1 => by
      rw [o19 (12 * i + 9) (by omega), o18 (12 * i + 9) (by omega), o17 (12 * i + 9) (by omega), o16 (12 * i + 9) (by omega), o15 (12 * i + 9) (by omega), o14 (12 * i + 9) (by omega), o13 (12 * i + 9) (by omega), o12 (12 * i + 9) (by omega), o11 (12 * i + 9) (by omega), o10 (12 * i + 9) (by omega), o9 (12 * i + 9) (by omega), v8 k k0 k1, o7 (12 * j + 9) (by omega), o6 (12 * j + 9) (by omega), o5 (12 * j + 9) (by omega), o4 (12 * j + 9) (by omega), o3 (12 * j + 9) (by omega), o2 (12 * j + 9) (by omega), o1 (12 * j + 9) (by omega)]
    have g11 : ∀ k : Int, 0 ≤ k → k < 24 → m19 (12 * i + 11) k = μ (12 * j + 11) k := fun k k0 k1 => by
      rw [o19 (12 * i + 11) (by omega), o18 (12 * i + 11) (by omega), o17 (12 * i + 11) (by omega), o16 (12 * i + 11) (by omega), o15 (12 * i + 11) (by omega), o14 (12 * i + 11) (by omega), o13 (12 * i + 11) (by omega), o12 (12 * i + 11) (by omega), o11 (12 * i + 11) (by omega), v10 k k0 k1, o9 (12 * j + 11) (by omega), o8 (12 * j + 11) (by omega), o7 (12 * j + 11) (by omega), o6 (12 * j + 11) (by omega), o5 (12 * j + 11) (by omega), o4 (12 * j + 11) (by omega), o3 (12 * j + 11) (by omega), o2 (12 * j + 11) (by omega), o1 (12 * j + 11) (by omega)]
    have g8_1 : m19 (12 * i + 8) 1 = μ (12 * j + 8) 1 := by
      rw [o19 (12 * i + 8) (by omega), o18 (12 * i + 8) (by omega), o17 (12 * i + 8) (by omega), o16 (12 * i + 8) (by omega), o15 (12 * i + 8) (by omega), o14 (12 * i + 8) (by omega), o13 (12 * i + 8) (by omega), o12 (12 * i + 8) (by omega), o11 (12 * i + 8) (by omega), o10 (12 * i + 8) (by omega), v9, o8 (12 * j + 8) (by omega), o7 (12 * j + 8) (by omega), o6 (12 * j + 8) (by omega), o5 (12 * j + 8) (by omega), o4 (12 * j + 8) (by omega), o3 (12 * j + 8) (by omega), o2 (12 * j + 8) (by omega), o1 (12 * j + 8) (by omega)]
    have g10_1 : m19 (12 * i + 10) 1 = μ (12 * j + 10) 1 := by
      rw [o19 (12 * i + 10) (by omega), o18 (12 * i + 10) (by omega), o17 (12 * i + 10) (by omega), o16 (12 * i + 10) (by omega), o15 (12 * i + 10) (by omega), o14 (12 * i + 10) (by omega), o13 (12 * i + 10) (by omega), o12 (12 * i + 10) (by omega), v11, o10 (12 * j + 10) (by omega), o9 (12 * j + 10) (by omega), o8 (12 * j + 10) (by omega), o7 (12 * j + 10) (by omega), o6 (12 * j + 10) (by omega), o5 (12 * j + 10) (by omega), o4 (12 * j + 10) (by omega), o3 (12 * j + 10) (by omega), o2 (12 * j + 10) (by omega), o1 (12 * j + 10) (by omega)]
    have g0_9 : m19 (12 * i + 0) 9 = μ (12 * j + 0) 9 := by
      rw [w19 9 (by decide), w18 9 (by decide), w17 9 (by decide), w16 9 (by decide), w15 9 (by decide), w14 9 (by decide), w13 9 (by decide), v12, o11 (12 * j + 0) (by omega), o10 (12 * j + 0) (by omega), o9 (12 * j + 0) (by omega), o8 (12 * j + 0) (by omega), o7 (12 * j + 0) (by omega), o6 (12 * j + 0) (by omega), o5 (12 * j + 0) (by omega), o4 (12 * j + 0) (by omega), o3 (12 * j + 0) (by omega), o2 (12 * j + 0) (by omega), o1 (12 * j + 0) (by omega)]
    have g0_10 : m19 (12 * i + 0) 10 = μ (12 * j + 0) 10 := by
      rw [w19 10 (by decide), w18 10 (by decide), w17 10 (by decide), w16 10 (by decide), w15 10 (by decide), w14 10 (by decide), v13, o12 (12 * j + 0) (by omega), o11 (12 * j + 0) (by omega), o10 (12 * j + 0) (by omega), o9 (12 * j + 0) (by omega), o8 (12 * j + 0) (by omega), o7 (12 * j + 0) (by omega), o6 (12 * j + 0) (by omega), o5 (12 * j + 0) (by omega), o4 (12 * j + 0) (by omega), o3 (12 * j + 0) (by omega), o2 (12 * j + 0) (by omega), o1 (12 * j + 0) (by omega)]
    have g0_11 : m19 (12 * i + 0) 11 = μ (12 * j + 0) 11 := by
      rw [w19 11 (by decide), w18 11 (by decide), w17 11 (by decide), w16 11 (by decide), w15 11 (by decide), v14, o13 (12 * j + 0) (by omega), o12 (12 * j + 0) (by omega), o11 (12 * j + 0) (by omega), o10 (12 * j + 0) (by omega), o9 (12 * j + 0) (by omega), o8 (12 * j + 0) (by omega), o7 (12 * j + 0) (by omega), o6 (12 * j + 0) (by omega), o5 (12 * j + 0) (by omega), o4 (12 * j + 0) (by omega), o3 (12 * j + 0) (by omega), o2 (12 * j + 0) (by omega), o1 (12 * j + 0) (by omega)]
    have g0_12 : m19 (12 * i + 0) 12 = μ (12 * j + 0) 12 := by
      rw [w19 12 (by decide), w18 12 (by decide), w17 12 (by decide), w16 12 (by decide), v15, o14 (12 * j + 0) (by omega), o13 (12 * j + 0) (by omega), o12 (12 * j + 0) (by omega), o11 (12 * j + 0) (by omega), o10 (12 * j + 0) (by omega), o9 (12 * j + 0) (by omega), o8 (12 * j + 0) (by omega), o7 (12 * j + 0) (by omega), o6 (12 * j + 0) (by omega), o5 (12 * j + 0) (by omega), o4 (12 * j + 0) (by omega), o3 (12 * j + 0) (by omega), o2 (12 * j + 0) (by omega), o1 (12 * j + 0) (by omega)]
    have g0_13 : m19 (12 * i + 0) 13 = μ (12 * j + 0) 13 := by
      rw [w19 13 (by decide), w18 13 (by decide), w17 13 (by decide), v16, o15 (12 * j + 0) (by omega), o14 (12 * j + 0) (by omega), o13 (12 * j + 0) (by omega), o12 (12 * j + 0) (by omega), o11 (12 * j + 0) (by omega), o10 (12 * j + 0) (by omega), o9 (12 * j + 0) (by omega), o8 (12 * j + 0) (by omega), o7 (12 * j + 0) (by omega), o6 (12 * j + 0) (by omega), o5 (12 * j + 0) (by omega), o4 (12 * j + 0) (by omega), o3 (12 * j + 0) (by omega), o2 (12 * j + 0) (by omega), o1 (12 * j + 0) (by omega)]
    have g0_14 : m19 (12 * i + 0) 14 = μ (12 * j + 0) 14 := by
      rw [w19 14 (by decide), w18 14 (by decide), v17, o16 (12 * j + 0) (by omega), o15 (12 * j + 0) (by omega), o14 (12 * j + 0) (by omega), o13 (12 * j + 0) (by omega), o12 (12 * j + 0) (by omega), o11 (12 * j + 0) (by omega), o10 (12 * j + 0) (by omega), o9 (12 * j + 0) (by omega), o8 (12 * j + 0) (by omega), o7 (12 * j + 0) (by omega), o6 (12 * j + 0) (by omega), o5 (12 * j + 0) (by omega), o4 (12 * j + 0) (by omega), o3 (12 * j + 0) (by omega), o2 (12 * j + 0) (by omega), o1 (12 * j + 0) (by omega)]
    have g0_15 : m19 (12 * i + 0) 15 = μ (12 * j + 0) 15 := by
      rw [w19 15 (by decide), v18, o17 (12 * j + 0) (by omega), o16 (12 * j + 0) (by omega), o15 (12 * j + 0) (by omega), o14 (12 * j + 0) (by omega), o13 (12 * j + 0) (by omega), o12 (12 * j + 0) (by omega), o11 (12 * j + 0) (by omega), o10 (12 * j + 0) (by omega), o9 (12 * j + 0) (by omega), o8 (12 * j + 0) (by omega), o7 (12 * j + 0) (by omega), o6 (12 * j + 0) (by omega), o5 (12 * j + 0) (by omega), o4 (12 * j + 0) (by omega), o3 (12 * j + 0) (by omega), o2 (12 * j + 0) (by omega), o1 (12 * j + 0) (by omega)]
    have g0_16 : m19 (12 * i + 0) 16 = μ (12 * j + 0) 16 := by
      rw [v19, o18 (12 * j + 0) (by omega), o17 (12 * j + 0) (by omega), o16 (12 * j + 0) (by omega), o15 (12 * j + 0) (by omega), o14 (12 * j + 0) (by omega), o13 (12 * j + 0) (by omega), o12 (12 * j + 0) (by omega), o11 (12 * j + 0) (by omega), o10 (12 * j + 0) (by omega), o9 (12 * j + 0) (by omega), o8 (12 * j + 0) (by omega), o7 (12 * j + 0) (by omega), o6 (12 * j + 0) (by omega), o5 (12 * j + 0) (by omega), o4 (12 * j + 0) (by omega), o3 (12 * j + 0) (by omega), o2 (12 * j + 0) (by omega), o1 (12 * j + 0) (by omega)]
    refine ⟨fun k k0 k1 => (g1 k k0 k1).trans (r1 k k0 k1), fun k k0 k1 => (g2 k k0 k1).trans (r2 k k0 k1), fun k k0 k1 => (g3 k k0 k1).trans (r3 k k0 k1), fun k k0 k1 => (g4 k k0 k1).trans (r4 k k0 k1), fun k k0 k1 kt => (g5 k k0 k1).trans (r5 k k0 k1 kt), fun k k0 k1 => (g6 k k0 k1).trans (r6 k k0 k1), fun k k0 k1 => (g7 _ (by omega) (by omega)).trans (r7 k k0 k1), ⟨g8_1.trans r8, fun k k0 k1 => (g9 k k0 (by omega)).trans (r9 k k0 k1)⟩, ⟨g10_1.trans r10, fun k k0 k1 => (g11 k k0 (by omega)).trans (r11 k k0 k1)⟩, g0_9.trans r12, g0_10.trans r13, g0_11.trans r14, g0_12.trans r15, g0_13.trans r16, g0_14.trans r17, g0_15.trans r18, g0_16.trans r19⟩
end CP
