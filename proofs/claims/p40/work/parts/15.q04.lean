/-! what can be come to, is there and is not to be swept -/
section QS
variable {t : Int} {μ ν : mu_T} {s : Int → Int} {a c : Int}
theorem rt_i {x k : Int} (h : rt_ s x k = true) : (s (17 + k) = 1 ∧ s (65 + k) = 2) ∨ ∃ j, (0 ≤ j ∧ j < 6) ∧ k = s (11 + j) := by
  unfold rt_ at h
  rcases Bool.or_eq_true _ _ ▸ h with h | h
  · exact Or.inl (of_decide_eq_true h)
  · obtain ⟨j, j0, j1, h⟩ := ex_i.mp h
    have h2 := (Bool.and_eq_true _ _ ▸ h).2
    exact Or.inr ⟨j, ⟨j0, j1⟩, of_decide_eq_true h2⟩
theorem ej_i {b k : Int} : ej_ s b k = true ↔ ∃ j, (0 ≤ j ∧ j < 4) ∧ k = s (137 + (b * 4 + j)) := by
  unfold ej_
  rw [ex_i]
  constructor
  · rintro ⟨j, j0, j1, h⟩
    exact ⟨j, ⟨j0, j1⟩, of_decide_eq_true h⟩
  · rintro ⟨j, ⟨j0, j1⟩, h⟩
    exact ⟨j, j0, j1, decide_eq_true h⟩
theorem rt_in (hI : iv_ t s) {x k : Int} (k0 : 0 ≤ k) (hk : k < 24) (h : rt_ s x k = true) : s (17 + k) = 1 ∧ ¬ dm_ s k := by
  obtain ⟨hT, hP, hH, hW, hM, hD, -⟩ := hI
  rcases rt_i h with ⟨h1, h2⟩ | ⟨j, ⟨j0, j1⟩, h1⟩
  · refine ⟨h1, fun z => ?_⟩
    obtain ⟨i, i0, i1, i2⟩ := hD.2.2.2 k k0 hk h2
    have q := (hD.2.1 i i0 i1).2.2
    rw [i2] at q
    exact q.2 z.1 z.2
  · have q := hM j j0 j1
    rw [← h1] at q
    have q2 := q.2 (by omega)
    refine ⟨?_, fun z => q2.2 z.1 z.2⟩
    rcases q.1 with w | w
    · omega
    · exact w.2.2
theorem ej_in (hI : iv_ t s) (hB : iv_B s) {b k : Int} (hb : 0 ≤ b ∧ b < 24) (k0 : 0 ≤ k) (h : ej_ s b k = true) : s (17 + k) = 1 ∧ (¬ dm_ s b → ¬ dm_ s k) := by
  obtain ⟨j, ⟨j0, j1⟩, h1⟩ := ej_i.mp h
  have q := hI.2.2.1 (b * 4 + j) (by omega) (by omega)
  rw [← h1] at q
  refine ⟨?_, fun hn z => ?_⟩
  · rcases q with w | w
    · omega
    · exact w.2.2
  · have w := hB.2.2.1 z.1 (b * 4 + j) (by omega) (by omega) (by rw [← h1]; omega) (fun y => hn ⟨z.1, by rw [show (b * 4 + j) / 4 = b by omega] at y; exact y⟩)
    rw [← h1] at w
    exact w z.2
theorem lv_in (hI : iv_ t s) (hB : iv_B s) (hc : 0 ≤ c ∧ c < 24) (h : lv9 s c = true) : s (17 + c) = 1 ∧ ¬ dm_ s c := by
  have q := rc_cl (r := rt_ s (-15)) (e := ej_ s) (p := fun k => decide (s (17 + k) = 1 ∧ ¬ dm_ s k)) (fun k k0 k1 h => decide_eq_true (rt_in hI k0 k1 h)) (fun b k hb k0 k1 hp he => by
    have w := of_decide_eq_true hp
    have v := ej_in hI hB hb k0 he
    exact decide_eq_true ⟨v.1, v.2 w.2⟩) 24 c hc.1 hc.2 h
  exact of_decide_eq_true q
theorem rq_cl {r : Int → Bool} {e : Int → Int → Bool} {b k : Int} (hb : 0 ≤ b ∧ b < 24) (hk : 0 ≤ k ∧ k < 24) (h : rq_ r e 24 b = true) (he : e b k = true) : rq_ r e 24 k = true := rc_le (by decide) (rc_24 hk.1 hk.2 (rc_st hb h he))
theorem lv_kp (hc : 0 ≤ c ∧ c < 24) (h : lv9 s c = true) : kp9 s c = true := rc_cl (r := rt_ s (-15)) (e := ej_ s) (p := kp9 s) (fun k k0 k1 h => rc_le (Nat.zero_le _) (show rq_ _ _ 0 k = true from by
    show (rt_ s (-15) k || _) = true
    rw [h]
    rfl)) (fun b k hb k0 k1 hp he => rq_cl hb ⟨k0, k1⟩ hp he) 24 c hc.1 hc.2 h
theorem lv_0 (hc : 0 ≤ c ∧ c < 24) (h1 : s (17 + c) = 1) (h2 : s (65 + c) = 2) : rq_ (rt_ s (-15)) (ej_ s) 0 c = true := by
  show rt_ s (-15) c = true
  unfold rt_
  rw [decide_eq_true ⟨h1, h2⟩]
  rfl
/-- no grey urn but in a marking -/
theorem no_grey (hI : iv_ t s) (h : s 0 ≠ 1) (hc : 0 ≤ c ∧ c < 24) : s (41 + c) ≠ 1 := g_none hI.2.2.2.2.2.2.1 (hI.2.2.2.2.2.2.1.2.2.2 h) hc.1 hc.2
theorem th_or (hI : iv_ t s) (hc : 0 ≤ c ∧ c < 24) {i : Int} (hi : 0 ≤ i ∧ i < 4) : s (137 + (c * 4 + i)) = -15 ∨ ((0 ≤ s (137 + (c * 4 + i)) ∧ s (137 + (c * 4 + i)) < 24) ∧ s (17 + s (137 + (c * 4 + i))) = 1) := by
  rcases hI.2.2.1 (c * 4 + i) (by omega) (by omega) with w | w
  · exact Or.inl w
  · exact Or.inr ⟨⟨w.1, w.2.1⟩, w.2.2⟩
/-- a thread leads no further than one step on -/
theorem dp_near (hr : hr_ μ s) (hI : iv_ t s) (u : ur9_ s c) {i : Int} (hi : 0 ≤ i ∧ i < 4) {d : Nat} (hd : rq_ (rt_ s (-15)) (ej_ s) d c = true) (h0 : 0 ≤ s (137 + (c * 4 + i))) : ∃ dp, f_X11_depth μ (s (137 + (c * 4 + i))) = some dp ∧ 0 ≤ dp ∧ dp ≤ d + 1 ∧ dp < 24 := by
  have q := th_or hI u.1 hi
  have w : ur9_ s (s (137 + (c * 4 + i))) := by
    rcases q with q | q
    · omega
    · exact q
  obtain ⟨dp, e1, e2⟩ := v_depth hr hI w
  have e3 := rc_st u.1 hd (ej_i.mpr ⟨i, hi, rfl⟩)
  rcases e2 with ⟨e4, -⟩ | ⟨-, d2, e4, e5, e6, e7⟩
  · have e5 : lv9 s (s (137 + (c * 4 + i))) = true := rc_le (by decide) (rc_24 w.1.1 w.1.2 e3)
    rw [e4] at e5
    exact absurd e5 (by decide)
  · refine ⟨dp, e1, by omega, ?_, by omega⟩
    by_cases z : d2 ≤ d + 1
    · omega
    · have e8 := e7 (d + 1) (by omega)
      rw [e3] at e8
      exact absurd e8 (by decide)
theorem mk_bit {x : Int} {p : Int → Bool} (h : mk_ x p) (hc : 0 ≤ c ∧ c < 24) : an_ (sr_ x c) 1 = if p c = true then 1 else 0 := by
  have e := sr_1 (x := x) (n := c.toNat) (by omega)
  rw [show ((c.toNat : Nat) : Int) = c by omega] at e
  rw [e, h.2 c.toNat (by omega), decide_eq_true (show c.toNat < 24 by omega), show ((c.toNat : Nat) : Int) = c by omega, Bool.true_and]
end QS
