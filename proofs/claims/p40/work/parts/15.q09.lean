/-! what a whole round frees -/
section QR
variable {t : Int} {μ ν : mu_T} {s x y : Int → Int} {a b c : Int}
theorem rt_c {k : Int} : rt_ s (-15) k = true ↔ (s (17 + k) = 1 ∧ s (65 + k) = 2) ∨ ∃ j, (0 ≤ j ∧ j < 6) ∧ k = s (11 + j) := by
  refine ⟨rt_i, fun h => ?_⟩
  unfold rt_
  rcases h with h | ⟨j, ⟨j0, j1⟩, h⟩
  · rw [decide_eq_true h]
    rfl
  · have e : ex_ (fun j => !decide (j = -15) && decide (k = s (11 + j))) 6 = true := ex_i.mpr ⟨j, j0, j1, by
      show (!decide (j = -15) && decide (k = s (11 + j))) = true
      rw [decide_eq_true h, decide_eq_false (show ¬ j = -15 by omega)]
      rfl⟩
    rw [e, Bool.or_true]
theorem kr_c {k : Int} : (rt_ s (-15) k || decide (s (17 + k) = 1 ∧ s (65 + k) = 1)) = true ↔ (s (17 + k) = 1 ∧ (s (65 + k) = 1 ∨ s (65 + k) = 2)) ∨ ∃ j, (0 ≤ j ∧ j < 6) ∧ k = s (11 + j) := by
  rw [Bool.or_eq_true, rt_c]
  constructor
  · rintro ((h | h) | h)
    · exact Or.inl ⟨h.1, Or.inr h.2⟩
    · exact Or.inr h
    · have q := of_decide_eq_true h
      exact Or.inl ⟨q.1, Or.inl q.2⟩
  · rintro (⟨h1, h2 | h2⟩ | h)
    · exact Or.inr (decide_eq_true ⟨h1, h2⟩)
    · exact Or.inl (Or.inl ⟨h1, h2⟩)
    · exact Or.inl (Or.inr h)
theorem rq_0 {r : Int → Bool} {e : Int → Int → Bool} {k : Int} (h : r k = true) : rq_ r e 24 k = true := rc_le (Nat.zero_le _) (show rq_ r e 0 k = true from h)
theorem rq_mo {r r' : Int → Bool} {e e' : Int → Int → Bool} (hr : ∀ k, 0 ≤ k → k < 24 → r k = true → rq_ r' e' 24 k = true) (he : ∀ b k, (0 ≤ b ∧ b < 24) → (0 ≤ k ∧ k < 24) → rq_ r e 24 b = true → rq_ r' e' 24 b = true → e b k = true → rq_ r' e' 24 k = true) (hc : 0 ≤ c ∧ c < 24) (h : rq_ r e 24 c = true) : rq_ r' e' 24 c = true := by
  have q := rc_cl (r := r) (e := e) (p := fun k => rq_ r e 24 k && rq_ r' e' 24 k) (fun k k0 k1 h => by
    show (rq_ r e 24 k && rq_ r' e' 24 k) = true
    rw [rq_0 h, hr k k0 k1 h]
    rfl) (fun b k hb k0 k1 hp hk => by
    have w := Bool.and_eq_true _ _ ▸ hp
    show (rq_ r e 24 k && rq_ r' e' 24 k) = true
    rw [rq_cl hb ⟨k0, k1⟩ w.1 hk, he b k hb ⟨k0, k1⟩ w.1 w.2 hk]
    rfl) 24 c hc.1 hc.2 h
  exact (Bool.and_eq_true _ _ ▸ q).2
theorem ej_eq (h : ∀ k, 0 ≤ k → k < 96 → y (137 + k) = x (137 + k)) {k : Int} (hb : 0 ≤ b ∧ b < 24) (he : ej_ x b k = true) : ej_ y b k = true := by
  obtain ⟨j, ⟨j0, j1⟩, e⟩ := ej_i.mp he
  exact ej_i.mpr ⟨j, ⟨j0, j1⟩, e.trans (h _ (by omega) (by omega)).symm⟩
theorem lv_mo (h17 : ∀ c, 0 ≤ c → c < 24 → y (17 + c) = x (17 + c)) (h65 : ∀ c, 0 ≤ c → c < 24 → x (65 + c) = 2 → y (65 + c) = 2) (h11 : ∀ k, 0 ≤ k → k < 6 → y (11 + k) = x (11 + k)) (h137 : ∀ k, 0 ≤ k → k < 96 → y (137 + k) = x (137 + k)) (hc : 0 ≤ c ∧ c < 24) (h : lv9 x c = true) : lv9 y c = true :=
  rq_mo (fun k k0 k1 hk => rq_0 (rt_c.mpr (by
    rcases rt_c.mp hk with ⟨q1, q2⟩ | ⟨j, hj, q⟩
    · exact Or.inl ⟨(h17 k k0 k1).trans q1, h65 k k0 k1 q2⟩
    · exact Or.inr ⟨j, hj, q.trans (h11 j hj.1 hj.2).symm⟩))) (fun b k hb hk _ hp he => rq_cl hb hk hp (ej_eq h137 hb he)) hc h
theorem lv_eq (h17 : ∀ c, 0 ≤ c → c < 24 → y (17 + c) = x (17 + c)) (h65 : ∀ c, 0 ≤ c → c < 24 → y (65 + c) = x (65 + c)) (h11 : ∀ k, 0 ≤ k → k < 6 → y (11 + k) = x (11 + k)) (h137 : ∀ k, 0 ≤ k → k < 96 → y (137 + k) = x (137 + k)) (hc : 0 ≤ c ∧ c < 24) : lv9 y c = lv9 x c :=
  bo_i ⟨fun h => lv_mo (fun c a b => (h17 c a b).symm) (fun c a b q => (h65 c a b).symm.trans q) (fun c a b => (h11 c a b).symm) (fun c a b => (h137 c a b).symm) hc h, fun h => lv_mo h17 (fun c a b q => (h65 c a b).trans q) h11 h137 hc h⟩
/-- while urns are marked -/
def z1_ (s x : Int → Int) : Prop := x 0 = 1 ∧ (∀ c, 0 ≤ c → c < 24 → x (17 + c) = s (17 + c)) ∧ (∀ k, 0 ≤ k → k < 96 → x (137 + k) = s (137 + k)) ∧ (∀ k, 0 ≤ k → k < 6 → x (11 + k) = s (11 + k)) ∧ x 4 = s 4 ∧ (∀ c, 0 ≤ c → c < 24 → x (65 + c) = s (65 + c) ∨ (s (65 + c) = 1 ∧ x (65 + c) = 2)) ∧ ∀ c, 0 ≤ c → c < 24 → x (41 + c) ≠ 0 → lv9 x c = true
/-- n cells are swept -/
def z2_ (s x : Int → Int) (n : Nat) : Prop := ((x 0 = 2 ∧ x 1 = n ∧ n < 24) ∨ (x 0 = 0 ∧ n = 24)) ∧ (∀ c, 0 ≤ c → c < 24 → x (17 + c) = if c < n ∧ kp9 s c = false then 0 else s (17 + c)) ∧ x 4 = s 4 + cn_ (fun k => decide (s (17 + k) = 1) && !kp9 s k) n ∧ (∀ c, 0 ≤ c → c < 24 → lv9 x c = kp9 s c) ∧ ∀ c, (n : Int) ≤ c → c < 24 → (x (41 + c) = 0 ↔ kp9 s c = false)
def zz_ (s x : Int → Int) : Prop := iv_B x ∧ (z1_ s x ∨ ∃ n : Nat, z2_ s x n)
theorem z_b (h : bS x y) (z : z1_ s x) : z1_ s y := by
  obtain ⟨hp, hp', h8, c, hc, h1, hf, h2, hx⟩ := h
  obtain ⟨z0, z17, z137, z11, z4, z65, zl⟩ := z
  have e17 : ∀ c, 0 ≤ c → c < 24 → y (17 + c) = x (17 + c) := fun c a b => hf _ (by omega) (by omega) (by omega) (by omega)
  have e65 : ∀ c, 0 ≤ c → c < 24 → y (65 + c) = x (65 + c) := fun c a b => hf _ (by omega) (by omega) (by omega) (by omega)
  have e11 : ∀ c, 0 ≤ c → c < 6 → y (11 + c) = x (11 + c) := fun c a b => hf _ (by omega) (by omega) (by omega) (by omega)
  have e137 : ∀ c, 0 ≤ c → c < 96 → y (137 + c) = x (137 + c) := fun c a b => hf _ (by omega) (by omega) (by omega) (by omega)
  refine ⟨hp', fun c a b => (e17 c a b).trans (z17 c a b), fun c a b => (e137 c a b).trans (z137 c a b), fun c a b => (e11 c a b).trans (z11 c a b), (hf 4 (by decide) (by decide) (by decide) (by decide)).trans z4, fun c a b => by rw [e65 c a b]; exact z65 c a b, fun d d0 d1 hd => ?_⟩
  rw [lv_eq e17 e65 e11 e137 ⟨d0, d1⟩]
  by_cases e : d = c
  · exact zl d d0 d1 (by rw [e]; omega)
  · have w := hx d d0 d1 e
    by_cases h0 : x (41 + d) = 0
    · by_cases ht : tg_ x c d
      · obtain ⟨k, k0, k1, hk⟩ := ht
        exact rq_cl hc ⟨d0, d1⟩ (zl c hc.1 hc.2 (by omega)) (ej_i.mpr ⟨k, ⟨k0, k1⟩, hk.symm⟩)
      · exact absurd ((w.2 h0).2 ht) hd
    · exact zl d d0 d1 h0
theorem z_d (h : dS x y) (z : z1_ s x) : z1_ s y := by
  obtain ⟨hp, hp', h8, hf, hx⟩ := h
  obtain ⟨z0, z17, z137, z11, z4, z65, zl⟩ := z
  have e17 : ∀ c, 0 ≤ c → c < 24 → y (17 + c) = x (17 + c) := fun c a b => hf _ (by omega) (by omega) (by omega) (by omega)
  have e11 : ∀ c, 0 ≤ c → c < 6 → y (11 + c) = x (11 + c) := fun c a b => hf _ (by omega) (by omega) (by omega) (by omega)
  have e137 : ∀ c, 0 ≤ c → c < 96 → y (137 + c) = x (137 + c) := fun c a b => hf _ (by omega) (by omega) (by omega) (by omega)
  refine ⟨hp', fun c a b => (e17 c a b).trans (z17 c a b), fun c a b => (e137 c a b).trans (z137 c a b), fun c a b => (e11 c a b).trans (z11 c a b), (hf 4 (by decide) (by decide) (by decide) (by decide)).trans z4, fun d d0 d1 => ?_, fun d d0 d1 hd => ?_⟩
  · by_cases ht : td_ x d
    · have w := (hx d d0 d1).1 ht
      have q := z65 d d0 d1
      have q2 := ht.2.2
      exact Or.inr ⟨by omega, w.2⟩
    · have w := (hx d d0 d1).2 ht
      rw [w.2]
      exact z65 d d0 d1
  · by_cases ht : td_ x d
    · have w := (hx d d0 d1).1 ht
      exact rc_le (Nat.zero_le _) (lv_0 ⟨d0, d1⟩ ((e17 d d0 d1).trans ht.1) w.2)
    · have w := (hx d d0 d1).2 ht
      rw [w.1] at hd
      refine lv_mo e17 (fun c a b q => ?_) e11 e137 ⟨d0, d1⟩ (zl d d0 d1 hd)
      have hn : ¬ td_ x c := fun v => by
        have := v.2.2
        omega
      rw [((hx c a b).2 hn).2, q]
theorem z_c (hI : iv_ t x) (hB : iv_B x) (h : cS x y) (z : z1_ s x) : z2_ s y 0 := by
  obtain ⟨hp, h8, hn, p0, p1, hf⟩ := h
  obtain ⟨z0, z17, z137, z11, z4, z65, zl⟩ := z
  have e17 : ∀ c, 0 ≤ c → c < 24 → y (17 + c) = x (17 + c) := fun c a b => hf _ (by omega) (by omega) (by omega) (by omega)
  have e65 : ∀ c, 0 ≤ c → c < 24 → y (65 + c) = x (65 + c) := fun c a b => hf _ (by omega) (by omega) (by omega) (by omega)
  have e11 : ∀ c, 0 ≤ c → c < 6 → y (11 + c) = x (11 + c) := fun c a b => hf _ (by omega) (by omega) (by omega) (by omega)
  have e137 : ∀ c, 0 ≤ c → c < 96 → y (137 + c) = x (137 + c) := fun c a b => hf _ (by omega) (by omega) (by omega) (by omega)
  have e41 : ∀ c, 0 ≤ c → c < 24 → y (41 + c) = x (41 + c) := fun c a b => hf _ (by omega) (by omega) (by omega) (by omega)
  have k1 : ∀ c, 0 ≤ c → c < 24 → lv9 x c = true → kp9 s c = true := fun c c0 c1 h => rq_mo (fun k k0 k1 hk => rq_0 (kr_c.mpr (by
    rcases rt_c.mp hk with ⟨q1, q2⟩ | ⟨j, hj, q⟩
    · have w := z65 k k0 k1
      exact Or.inl ⟨(z17 k k0 k1).symm.trans q1, by omega⟩
    · exact Or.inr ⟨j, hj, q.trans (z11 j hj.1 hj.2)⟩))) (fun b k hb hk _ hp he => rq_cl hb hk hp (ej_eq (fun c a b => (z137 c a b).symm) hb he)) ⟨c0, c1⟩ h
  have hdue : ∀ k, 0 ≤ k → k < 24 → x (65 + k) = 2 → x (41 + k) ≠ 0 := fun k k0 k1 h2 => by
    obtain ⟨i, i0, i1, i2⟩ := hI.2.2.2.2.2.1.2.2.2 k k0 k1 h2
    have q := (hI.2.2.2.2.2.1.2.1 i i0 i1).2.2
    rw [i2] at q
    exact q.1 hp
  have k2 : ∀ c, 0 ≤ c → c < 24 → kp9 s c = true → x (41 + c) ≠ 0 := fun c c0 c1 h => by
    have q := rc_cl (e := ej_ s) (p := fun k => decide (x (41 + k) ≠ 0)) (fun k k0 k1 hk => decide_eq_true (by
      rcases kr_c.mp hk with ⟨q1, q2⟩ | ⟨j, hj, q⟩
      · have w := z65 k k0 k1
        rcases (show x (65 + k) = 1 ∨ x (65 + k) = 2 by omega) with v | v
        · exact fun h0 => hn k k0 k1 ⟨(z17 k k0 k1).trans q1, h0, v⟩
        · exact hdue k k0 k1 v
      · have w := hI.2.2.2.2.1 j hj.1 hj.2
        rw [z11 j hj.1 hj.2, ← q] at w
        exact (w.2 (by omega)).1 hp)) (fun b k hb k0 k1 hpb he => decide_eq_true (by
      have wb := of_decide_eq_true hpb
      obtain ⟨j, ⟨j0, j1⟩, e⟩ := ej_i.mp he
      have g := g_none hI.2.2.2.2.2.2.1 h8 (c := b) hb.1 hb.2
      have w2 := (hI.1 b hb.1 hb.2).2.1
      have e2 : x (137 + (b * 4 + j)) = k := (z137 _ (by omega) (by omega)).trans e.symm
      have v := hB.2.1 hp (b * 4 + j) (by omega) (by omega) (by rw [show (b * 4 + j) / 4 = b by omega]; omega) (by omega)
      rw [e2] at v
      exact v)) 24 c c0 c1 h
    exact of_decide_eq_true q
  have k3 : ∀ c, 0 ≤ c → c < 24 → lv9 x c = kp9 s c := fun c c0 c1 => bo_i ⟨k1 c c0 c1, fun h => zl c c0 c1 (k2 c c0 c1 h)⟩
  refine ⟨Or.inl ⟨p0, p1, by decide⟩, fun c c0 c1 => ?_, ?_, fun c c0 c1 => ?_, fun c c0 c1 => ?_⟩
  · rw [if_neg (fun q => by have := q.1; omega), e17 c c0 c1, z17 c c0 c1]
  · rw [hf 4 (by decide) (by decide) (by decide) (by decide), z4]
    exact (Int.add_zero _).symm
  · rw [lv_eq e17 e65 e11 e137 ⟨c0, c1⟩, k3 c c0 c1]
  · have c0' : 0 ≤ c := by omega
    rw [e41 c c0' c1]
    constructor
    · intro h0
      exact Bool.eq_false_iff.mpr (fun h => k2 c c0' c1 h h0)
    · intro h
      by_cases h0 : x (41 + c) = 0
      · exact h0
      · have w := k1 c c0' c1 (zl c c0' c1 h0)
        rw [h] at w
        exact absurd w (by decide)
theorem z_s (hI : iv_ t x) {n : Nat} (hp : x 0 = 2) (h : sS x y) (z : z2_ s x n) : z2_ s y (n + 1) := by
  obtain ⟨-, hm, hn, h41, hz⟩ := h
  obtain ⟨z0, z17, z4, zl, z41⟩ := z
  obtain ⟨zn, n24⟩ : x 1 = n ∧ n < 24 := by
    rcases z0 with ⟨-, zn, n24⟩ | ⟨w, -⟩
    · exact ⟨zn, n24⟩
    · omega
  have hd : ((y 0 = 2 ∧ y 1 = ((n + 1 : Nat) : Int) ∧ n + 1 < 24) ∨ (y 0 = 0 ∧ n + 1 = 24)) := by
    rcases hn with ⟨a, b, c⟩ | ⟨a, b, c⟩
    · exact Or.inl ⟨b, by omega, by omega⟩
    · exact Or.inr ⟨b, by omega⟩
  have hc : ∀ c, ((n + 1 : Nat) : Int) ≤ c → c < 24 → (y (41 + c) = 0 ↔ kp9 s c = false) := fun c c0 c1 => by
    rw [h41 c (by omega) c1, if_neg (by omega)]
    exact z41 c (by omega) c1
  have zn41 := z41 n (Int.le_refl _) (by omega)
  have zn17 := z17 n (by omega) (by omega)
  rw [if_neg (fun q => by have := q.1; omega)] at zn17
  rcases hz with ⟨q1, q2, q3, q4, q5, q6⟩ | ⟨q1, q3, q4, q5, q6⟩
  · rw [zn] at q2 q1 q4 q5 q6
    have kn := zn41.mp q2
    have ln : lv9 x n = false := (zl n (by omega) (by omega)).trans kn
    refine ⟨hd, fun c c0 c1 => ?_, ?_, fun c c0 c1 => ?_, hc⟩
    · rw [q4 c c0 c1]
      by_cases e : c = n
      · rw [if_pos e, if_pos ⟨by omega, by rw [e]; exact kn⟩]
      · rw [if_neg e, z17 c c0 c1]
        by_cases w : c < n ∧ kp9 s c = false
        · rw [if_pos w, if_pos ⟨by omega, w.2⟩]
        · rw [if_neg w, if_neg (fun v => w ⟨by omega, v.2⟩)]
    · rw [q3, z4, cn_s, if_pos (by rw [decide_eq_true (show s (17 + (n : Int)) = 1 by omega), kn]; rfl)]
      omega
    · refine Eq.trans (bo_i ⟨fun h => ?_, fun h => ?_⟩) (zl c c0 c1)
      · refine rq_mo (r' := rt_ x (-15)) (e' := ej_ x) (fun k k0 k1 hk => rq_0 (rt_c.mpr ?_)) (fun b k hb hk _ hpb he => ?_) ⟨c0, c1⟩ h
        · rcases rt_c.mp hk with ⟨v1, v2⟩ | ⟨j, hj, v⟩
          · rw [q4 k k0 k1] at v1
            rw [q5 k k0 k1] at v2
            by_cases e : k = n
            · rw [if_pos e] at v1
              omega
            · rw [if_neg e] at v1 v2
              exact Or.inl ⟨v1, v2⟩
          · exact Or.inr ⟨j, hj, v.trans (hm j hj.1 hj.2)⟩
        · obtain ⟨j, ⟨j0, j1⟩, e⟩ := ej_i.mp he
          rw [q6 _ (by omega) (by omega)] at e
          by_cases v : (b * 4 + j) / 4 = n ∨ x (137 + (b * 4 + j)) = n
          · rw [if_pos v] at e
            omega
          · rw [if_neg v] at e
            exact rq_cl hb hk hpb (ej_i.mpr ⟨j, ⟨j0, j1⟩, e⟩)
      · refine rq_mo (r' := rt_ y (-15)) (e' := ej_ y) (fun k k0 k1 hk => rq_0 (rt_c.mpr ?_)) (fun b k hb hk hxb hpb he => ?_) ⟨c0, c1⟩ h
        · have hkn : k ≠ n := fun e => by
            have w : lv9 x k = true := rq_0 hk
            rw [e, ln] at w
            exact absurd w (by decide)
          rcases rt_c.mp hk with ⟨v1, v2⟩ | ⟨j, hj, v⟩
          · exact Or.inl ⟨by rw [q4 k k0 k1, if_neg hkn, v1], by rw [q5 k k0 k1, if_neg hkn, v2]⟩
          · exact Or.inr ⟨j, hj, v.trans (hm j hj.1 hj.2).symm⟩
        · have hbn : b ≠ n := fun e => by
            have w : lv9 x b = true := hxb
            rw [e, ln] at w
            exact absurd w (by decide)
          have hkn : k ≠ n := fun e => by
            have w : lv9 x k = true := rq_cl hb hk hxb he
            rw [e, ln] at w
            exact absurd w (by decide)
          obtain ⟨j, ⟨j0, j1⟩, e⟩ := ej_i.mp he
          exact rq_cl hb hk hpb (ej_i.mpr ⟨j, ⟨j0, j1⟩, by rw [q6 _ (by omega) (by omega), if_neg (by omega)]; exact e⟩)
  · rw [zn] at q1
    have w17 := (hI.1 n (by omega) (by omega)).1
    have key : kp9 s n = false → s (17 + (n : Int)) = 0 := fun v => by
      have := zn41.mpr v
      rcases w17 with w | w
      · omega
      · exact absurd ⟨w, this⟩ q1
    refine ⟨hd, fun c c0 c1 => ?_, ?_, fun c c0 c1 => (lv_eq q4 q5 hm q6 ⟨c0, c1⟩).trans (zl c c0 c1), hc⟩
    · rw [q4 c c0 c1, z17 c c0 c1]
      by_cases e : c = n
      · rw [if_neg (by omega)]
        by_cases v : kp9 s c = false
        · rw [if_pos ⟨by omega, v⟩, e]
          exact key (e ▸ v)
        · rw [if_neg (fun z => v z.2)]
      · by_cases w : c < n ∧ kp9 s c = false
        · rw [if_pos w, if_pos ⟨by omega, w.2⟩]
        · rw [if_neg w, if_neg (fun v => w ⟨by omega, v.2⟩)]
    · rw [q3, z4, cn_s, if_neg (by
        by_cases v : kp9 s n = true
        · rw [v, Bool.not_true, Bool.and_false]
          decide
        · rw [decide_eq_false (show ¬ s (17 + (n : Int)) = 1 by have := key (Bool.eq_false_iff.mpr v); omega), Bool.false_and]
          decide)]
      omega
theorem zz_p (hI : iv_ t x) (h0 : x 0 ≠ 0) (h : pt_ x y) (z : zz_ s x) : zz_ s y := by
  obtain ⟨hB, z⟩ := z
  refine ⟨pt_B hI h hB, ?_⟩
  rcases z with z | ⟨n, z⟩
  · have z0 := z.1
    rcases h with h | h | h | h
    · exact Or.inl (z_b h z)
    · exact Or.inl (z_d h z)
    · exact Or.inr ⟨0, z_c hI hB h z⟩
    · have := h.1
      omega
  · have hp : x 0 = 2 := by
      rcases z.1 with w | w
      · exact w.1
      · exact absurd w.1 h0
    rcases h with h | h | h | h
    · have := h.1
      omega
    · have := h.1
      omega
    · have := h.1
      omega
    · exact Or.inr ⟨n + 1, z_s hI hp h z⟩
theorem z_0 {T : Int → Prop} (hI : iv_ t s) (hB : iv_B s) (h0 : s 0 = 0) (hT : ∀ c, 0 ≤ c → c < 24 → T c → (∃ k, 0 ≤ k ∧ k < 6 ∧ s (11 + k) = c) ∨ ∃ k, 0 ≤ k ∧ k < s 9 ∧ s (257 + k) = c) (h : gr_ T (ur_ s 0 1) y) : z1_ s y := by
  have e : ∀ j, j ≠ 0 → j ≠ 8 → (j < 41 ∨ 65 ≤ j) → (j < 233 ∨ 257 ≤ j) → y j = s j := fun j a b c d => (h.1 j b c d).trans (ur_n a)
  have e65 : ∀ c, 0 ≤ c → c < 24 → y (65 + c) = s (65 + c) := fun c a b => e _ (by omega) (by omega) (by omega) (by omega)
  have e17 : ∀ c, 0 ≤ c → c < 24 → y (17 + c) = s (17 + c) := fun c a b => e _ (by omega) (by omega) (by omega) (by omega)
  have e11 : ∀ k, 0 ≤ k → k < 6 → y (11 + k) = s (11 + k) := fun c a b => e _ (by omega) (by omega) (by omega) (by omega)
  refine ⟨(h.1 0 (by decide) (by decide) (by decide)).trans ur_y, e17, fun c a b => e _ (by omega) (by omega) (by omega) (by omega), e11, e 4 (by decide) (by decide) (by decide) (by decide), fun c a b => Or.inl (e65 c a b), fun c c0 c1 hc => ?_⟩
  have w0 := hB.2.2.2.1 h0 c c0 c1
  have w := h.2.2 c c0 c1 ((ur_n (by omega)).trans w0)
  by_cases ht : T c
  · rcases hT c c0 c1 ht with ⟨k, k0, k1, hk⟩ | ⟨k, k0, k1, hk⟩
    · exact rq_0 (rt_c.mpr (Or.inr ⟨k, ⟨k0, k1⟩, by rw [e11 k k0 k1, hk]⟩))
    · have q := (hI.2.2.2.2.2.1.2.1 k k0 k1).2.1
      rw [hk] at q
      have q2 := hI.1 c c0 c1
      have q3 : s (17 + c) = 1 := by
        rcases q2.1 with v | v
        · have := (q2.2.2.2 v).2
          omega
        · exact v
      exact rq_0 (rt_c.mpr (Or.inl ⟨by rw [e17 c c0 c1, q3], by rw [e65 c c0 c1, q]⟩))
  · exact absurd (w.2 ht) hc
end QR
