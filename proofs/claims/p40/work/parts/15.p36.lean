/-! the reference reads numbers and letters -/
section RN
variable {ν : mu_T} {T : Int → Int} {L p0 o : Int}
theorem dg_v {c p : Int} (hc : c = 35 ∨ c = 36) : vt_ T L c p = if p < L ∧ 48 ≤ T p ∧ T p ≤ 57 then T p - 48 else -1 := by
  unfold vt_
  by_cases h : p < L
  · rw [if_pos h, if_pos hc]
    by_cases h2 : 48 ≤ T p ∧ T p ≤ 57
    · rw [if_pos h2, if_pos ⟨h, h2⟩]
    · rw [if_neg h2, if_neg (fun q => h2 q.2)]
  · rw [if_neg h, if_neg (fun q => h q.1)]
/-- one step of a number -/
theorem e_nst {J : Int → Int → mu_T → Option mu_T} {m n d p : Int} {f : Nat} (ht : tl_ T L p0 o) (h5 : ν 5 = T) (h17 : ν 0 17 = L) (h16 : ν 0 16 = p) (h19 : ν 0 19 = 0) (hp : 0 ≤ p ∧ p ≤ L) (hd : rg_ d) (hm : rg_ m) (hdm : d < m) : f_X12_number_L5 J m (f + 1) n d ν = if p < L ∧ 48 ≤ T p ∧ T p ≤ 57 then f_X12_number_L5 J m f (10 * n + T p - 48) (d + 1) (st_ ν 0 16 (p + 1)) else J n d ν := by
  have eh := e_here h5 h17 h16 hp ht.1.2
  have hT : rg_ (if p < L then T p else -11) := by
    by_cases h1 : p < L
    · have := ht.2.1 p hp.1 h1
      rw [if_pos h1]
      omega
    · rw [if_neg h1]
      decide
  rw [f_X12_number_L5, nm_q (ν 0 19), eq_y h19, lt_y hd hm hdm, eh, bd_some, e_in hT (by decide) (by decide), bd_some, tr_0]
  by_cases h : p < L ∧ 48 ≤ T p ∧ T p ≤ 57
  · rw [if_pos h, if_pos h.1, if_pos h.2, bd_some, nm_q, nm_q (ν 0 16), h16, wf_e, nm_q]
  · rw [if_neg h, if_neg (fun q => h ?_)]
    by_cases h1 : p < L
    · rw [if_pos h1] at q
      exact ⟨h1, q⟩
    · rw [if_neg h1] at q
      omega
theorem z_num {l : List Int} {k m c : Int} (ht : tl_ T L p0 o) (hk : 1 ≤ k ∧ k ≤ 3) (hm : (m = 2 ∧ c = 35) ∨ (m = 1 ∧ c = 36)) (hl : (mt_ T L l p0).1 = true → ((mt_ T L l p0).2.2.length : Int) + 1 = k) (hz : pz_ T L p0 o ν l) : ∃ ν', f_X12_number ν k m = some ν' ∧ pz_ T L p0 o ν' (l ++ [c]) ∧ fz_ o ν ν' := by
  obtain ⟨F, hF, hF2⟩ := F_big
  obtain ⟨F', rfl⟩ : ∃ f', F = f' + 1 + 1 + 1 := ⟨F - 3, by omega⟩
  have ho := ht.2.2.2
  have hp := pz_p ht hz
  have hc2 : c = 35 ∨ c = 36 := by omega
  obtain ⟨J, hJ⟩ : ∃ J : Int → Int → mu_T → Option mu_T, J = fun x3_61 x4_61 μ61 => nm_ (μ61 0 19) (fun v63 => jn_ (φ := Int → Option mu_T) (fun s0_79 => wz_ μ61 0 19 s0_79 (fun μ79 => bd_ (f_X12_tells μ79 k x3_61) (fun μ85 => some μ85))) (fun J79 => jn_ (φ := Unit → Option mu_T) (fun _ => J79 1) (fun J74 => eq_ v63 0 (eq_ x4_61 0 (J74 ()) (J79 0)) (J74 ())))) := ⟨_, rfl⟩
  have eN : f_X12_number ν k m = f_X12_number_L5 J m (F' + 1 + 1 + 1) 0 0 ν := by
    unfold f_X12_number
    rw [← hF2, jn_e, ← hJ]
  have eJ : ∀ (n d : Int) (κ : mu_T) (w : Int), κ 0 18 = o → κ 0 19 = w → (w = 0 ∨ w = 1) → rg_ d → J n d κ = some (st_ (st_ κ 0 19 (if w = 0 ∧ d ≠ 0 then 0 else 1)) 6 (4 * o + k) n) := fun n d κ w h18 h19 hw hd => by
    rw [hJ]
    exact e_nend h18 ho (by omega) h19 hw hd
  have fr : ∀ (x y : Int) (κ : mu_T), (∀ q, q ≠ 0 → κ q = ν q) → (∀ j, j ≠ 16 → κ 0 j = ν 0 j) → fz_ o ν (st_ (st_ κ 0 19 x) 6 (4 * o + k) y) := fun x y κ a b => ⟨fun q q0 q1 => by rw [st_n q1, st_n q0, a q q0], fun j j0 j1 => by rw [st_n (by decide), st_s, if_neg j1, b j j0], fun i hi => by rw [st_s, if_neg (by omega), st_n (by decide), a 6 (by decide)]⟩
  rw [eN]
  by_cases hok : (mt_ T L l p0).1 = true
  · have hw0 : ν 0 19 = 0 := by
      rcases hz.2.2 with z | z
      · exact z.2.1
      · rw [z.1] at hok
        exact absurd hok (by decide)
    have hlen := hl hok
    generalize hpp : (mt_ T L l p0).2.1 = p at hp
    have h16 : ν 0 16 = p := hz.2.1.trans hpp
    -- what the state behind is
    have fin : ∀ (κ : mu_T) (n d p2 : Int), (∀ q, q ≠ 0 → κ q = ν q) → (∀ j, j ≠ 16 → κ 0 j = ν 0 j) → κ 0 16 = p2 → rg_ d → d ≠ 0 → mt_ T L [c] p = (true, p2, [n]) → ∃ ν', J n d κ = some ν' ∧ pz_ T L p0 o ν' (l ++ [c]) ∧ fz_ o ν ν' := fun κ n d p2 a b e16 hd hd0 hmt => by
      refine ⟨_, eJ n d κ 0 ((b 18 (by decide)).trans hz.1.2.2) ((b 19 (by decide)).trans hw0) (Or.inl rfl) hd, ?_, fr _ _ κ a b⟩
      rw [if_pos ⟨rfl, hd0⟩]
      refine pz_step hz hok ?_ ?_ ?_ ?_ ?_ (fun j hj => ?_) (fun _ j hj => ?_)
      · rw [st_n (by decide), st_n (by decide), a 5 (by decide)]
      · rw [st_n (by decide), st_s, if_neg (by decide), b 17 (by decide)]
      · rw [st_n (by decide), st_s, if_neg (by decide), b 18 (by decide)]
      · rw [hpp, hmt, st_n (by decide), st_s, if_neg (by decide), e16]
      · rw [hpp, hmt, st_n (by decide), st_s, if_pos rfl, if_pos rfl]
      · rw [st_s, if_neg (by omega), st_n (by decide), a 6 (by decide)]
      · rw [hpp, hmt] at hj ⊢
        have hj0 : j = 0 := Nat.lt_one_iff.mp hj
        subst hj0
        rw [st_s, if_pos (by omega)]
        rfl
    rw [e_nst ht hz.1.1 hz.1.2.1 h16 hw0 hp (by decide) (by omega) (by omega)]
    by_cases g1 : p < L ∧ 48 ≤ T p ∧ T p ≤ 57
    · have v1 : vt_ T L c p = T p - 48 := by rw [dg_v hc2, if_pos g1]
      have k16 : (st_ ν 0 16 (p + 1)) 0 16 = p + 1 := by rw [st_s, if_pos rfl]
      have kj : ∀ j, j ≠ 16 → (st_ ν 0 16 (p + 1)) 0 j = ν 0 j := fun j hj => by rw [st_s, if_neg hj]
      have kq : ∀ q, q ≠ 0 → (st_ ν 0 16 (p + 1)) q = ν q := fun q hq => st_n hq
      rw [if_pos g1]
      rcases hm with ⟨rfl, rfl⟩ | ⟨rfl, rfl⟩
      · rw [e_nst ht ((kq 5 (by decide)).trans hz.1.1) ((kj 17 (by decide)).trans hz.1.2.1) k16 ((kj 19 (by decide)).trans hw0) (by omega) (by decide) (by decide) (by decide)]
        by_cases g2 : p + 1 < L ∧ 48 ≤ T (p + 1) ∧ T (p + 1) ≤ 57
        · have v2 : vt_ T L 35 (p + 1) = T (p + 1) - 48 := by rw [dg_v (Or.inl rfl), if_pos g2]
          rw [if_pos g2, f_X12_number_L5]
          have e19 : (st_ (st_ ν 0 16 (p + 1)) 0 16 (p + 1 + 1)) 0 19 = 0 := by rw [st_s, if_neg (by decide), st_s, if_neg (by decide)]; exact hw0
          rw [nm_q, eq_y e19, lt_n (by decide) (by decide) (by decide)]
          refine fin _ _ _ (p + 2) (fun q hq => by rw [st_n hq, st_n hq]) (fun j hj => by rw [st_s, if_neg hj, st_s, if_neg hj]) (by rw [st_s, if_pos rfl]; omega) (by decide) (by decide) ?_
          have hwd : wd_ T L 35 p = 2 := if_pos ⟨rfl, by omega⟩
          have hvl : vl_ T L 35 p = vt_ T L 35 p * 10 + vt_ T L 35 (p + 1) := if_pos ⟨rfl, by omega⟩
          rw [mt_t (by omega), mt_n, if_pos (Or.inl rfl), hwd, hvl, v1, v2]
          show (true, p + 2, [(T p - 48) * 10 + (T (p + 1) - 48)]) = (true, p + 2, [10 * (10 * 0 + T p - 48) + T (p + 1) - 48])
          rw [show (T p - 48) * 10 + (T (p + 1) - 48) = 10 * (10 * 0 + T p - 48) + T (p + 1) - 48 by omega]
        · have v2 : vt_ T L 35 (p + 1) = -1 := by rw [dg_v (Or.inl rfl), if_neg g2]
          rw [if_neg g2]
          refine fin _ _ _ (p + 1) kq kj k16 (by decide) (by decide) ?_
          have hwd : wd_ T L 35 p = 1 := if_neg (fun q => by omega)
          have hvl : vl_ T L 35 p = vt_ T L 35 p := if_neg (fun q => by omega)
          rw [mt_t (by omega), mt_n, if_pos (Or.inl rfl), hwd, hvl, v1]
          show (true, p + 1, [T p - 48]) = (true, p + 1, [10 * 0 + T p - 48])
          rw [show T p - 48 = 10 * 0 + T p - 48 by omega]
      · rw [f_X12_number_L5]
        have e19 : (st_ ν 0 16 (p + 1)) 0 19 = 0 := (kj 19 (by decide)).trans hw0
        rw [nm_q, eq_y e19, lt_n (by decide) (by decide) (by decide)]
        refine fin _ _ _ (p + 1) kq kj k16 (by decide) (by decide) ?_
        have hwd : wd_ T L 36 p = 1 := if_neg (fun q => absurd q.1 (by decide))
        have hvl : vl_ T L 36 p = vt_ T L 36 p := if_neg (fun q => absurd q.1 (by decide))
        rw [mt_t (by omega), mt_n, if_pos (Or.inr (Or.inl rfl)), hwd, hvl, v1]
        show (true, p + 1, [T p - 48]) = (true, p + 1, [10 * 0 + T p - 48])
        rw [show T p - 48 = 10 * 0 + T p - 48 by omega]
    · have v1 : vt_ T L c p = -1 := by rw [dg_v hc2, if_neg g1]
      have hmt : mt_ T L [c] p = (false, p, []) := mt_f (by omega)
      rw [if_neg g1]
      refine ⟨_, eJ 0 0 ν 0 hz.1.2.2 hw0 (Or.inl rfl) (by decide), ?_, fr _ _ ν (fun _ _ => rfl) (fun _ _ => rfl)⟩
      rw [if_neg (fun q => q.2 rfl)]
      refine pz_step hz hok ?_ ?_ ?_ ?_ ?_ (fun j hj => ?_) (fun q => ?_)
      · rw [st_n (by decide), st_n (by decide)]
      · rw [st_n (by decide), st_s, if_neg (by decide)]
      · rw [st_n (by decide), st_s, if_neg (by decide)]
      · rw [hpp, hmt, st_n (by decide), st_s, if_neg (by decide), h16]
      · rw [hpp, hmt, st_n (by decide), st_s, if_pos rfl, if_neg (show ¬ ((false, p, ([] : List Int)).1 = true) from Bool.false_ne_true)]
      · rw [st_s, if_neg (by omega), st_n (by decide)]
      · rw [hpp, hmt] at q
        exact (Bool.false_ne_true q).elim
  · have hof := Bool.eq_false_iff.mpr hok
    have hw1 : ν 0 19 = 1 := by
      rcases hz.2.2 with z | z
      · exact absurd z.1 hok
      · exact z.2
    rw [f_X12_number_L5, nm_q, hw1, eq_n (by decide) (by decide) (by decide)]
    refine ⟨_, eJ 0 0 ν 1 hz.1.2.2 hw1 (Or.inr rfl) (by decide), ?_, fr _ _ ν (fun _ _ => rfl) (fun _ _ => rfl)⟩
    rw [if_neg (fun q => absurd q.1 (by decide))]
    refine pz_fail _ ⟨⟨?_, ?_, ?_⟩, ?_, Or.inr ⟨hof, ?_⟩⟩ hof
    · rw [st_n (by decide), st_n (by decide)]
      exact hz.1.1
    · rw [st_n (by decide), st_s, if_neg (by decide)]
      exact hz.1.2.1
    · rw [st_n (by decide), st_s, if_neg (by decide)]
      exact hz.1.2.2
    · rw [st_n (by decide), st_s, if_neg (by decide)]
      exact hz.2.1
    · rw [st_n (by decide), st_s, if_pos rfl]
theorem z_let {l : List Int} (ht : tl_ T L p0 o) (hl : (mt_ T L l p0).1 = true → (mt_ T L l p0).2.2.length = 0) (hz : pz_ T L p0 o ν l) : ∃ ν', f_X12_letter ν 1 = some ν' ∧ pz_ T L p0 o ν' (l ++ [64]) ∧ fz_ o ν ν' := by
  have ho := ht.2.2.2
  have hp := pz_p ht hz
  generalize hpp : (mt_ T L l p0).2.1 = p at hp
  have h16 : ν 0 16 = p := hz.2.1.trans hpp
  have hw : ν 0 19 = 0 ∨ ν 0 19 = 1 := by
    rcases hz.2.2 with z | z
    · exact Or.inl z.2.1
    · exact Or.inr z.2
  obtain ⟨H, hH⟩ : ∃ H : Int, H = if p < L then T p else -11 := ⟨_, rfl⟩
  have hT : rg_ H := by
    by_cases h1 : p < L
    · have := ht.2.1 p hp.1 h1
      rw [hH, if_pos h1]
      omega
    · rw [hH, if_neg h1]
      decide
  have hg : (97 ≤ H ∧ H ≤ 102) ↔ (p < L ∧ 97 ≤ T p ∧ T p ≤ 102) := by
    by_cases h1 : p < L
    · rw [if_pos h1] at hH
      rw [hH]
      exact ⟨fun q => ⟨h1, q⟩, fun q => q.2⟩
    · rw [if_neg h1] at hH
      rw [hH]
      exact ⟨fun q => by omega, fun q => absurd q.1 h1⟩
  have eh : f_X12_here ν = some H := by
    rw [hH]
    exact e_here hz.1.1 hz.1.2.1 h16 hp ht.1.2
  -- what lies behind the question
  have key : ∀ v z : Int, (v = 0 ∧ z = p + 1 ∨ v = 1 ∧ z = p + 0) → wz_ ν 0 19 v (fun μ27 => bd_ (f_X12_here μ27) (fun v33 => bd_ (f_X12_tells μ27 1 (v33 - 97)) (fun μ39 => nm_ (μ39 0 16) (fun v44 => nm_ (μ39 0 19) (fun v48 => eq_ v48 0 (wf_ μ39 0 16 (v44 + 1) (fun μ60 => some μ60)) (wf_ μ39 0 16 (v44 + 0) (fun μ60 => some μ60))))))) = some (st_ (st_ (st_ ν 0 19 v) 6 (4 * o + 1) (H - 97)) 0 16 z) := fun v z hv => by
    have e1 : f_X12_here (st_ ν 0 19 v) = some H := by
      rw [hH]
      exact e_here (by rw [st_n (by decide)]; exact hz.1.1) (by rw [st_s, if_neg (by decide)]; exact hz.1.2.1) (by rw [st_s, if_neg (by decide)]; exact h16) hp ht.1.2
    rw [wz_e (by omega), e1, bd_some, e_tells (o := o) (by rw [st_s, if_neg (by decide)]; exact hz.1.2.2) ho (by decide), bd_some, nm_q, nm_q]
    have e16 : (st_ (st_ ν 0 19 v) 6 (4 * o + 1) (H - 97)) 0 16 = p := by rw [st_n (by decide), st_s, if_neg (by decide), h16]
    have e19 : (st_ (st_ ν 0 19 v) 6 (4 * o + 1) (H - 97)) 0 19 = v := by rw [st_n (by decide), st_s, if_pos rfl]
    rw [e16, e19]
    rcases hv with ⟨rfl, rfl⟩ | ⟨rfl, rfl⟩
    · rw [eq_y rfl, wf_e]
    · rw [eq_n (by decide) (by decide) (by decide), wf_e]
  have fr : ∀ x y z : Int, fz_ o ν (st_ (st_ (st_ ν 0 19 x) 6 (4 * o + 1) y) 0 16 z) := fun x y z => ⟨fun q q0 q1 => by rw [st_n q0, st_n q1, st_n q0], fun j j0 j1 => by rw [st_s, if_neg j0, st_n (by decide), st_s, if_neg j1], fun i hi => by rw [st_n (by decide), st_s, if_neg (by omega), st_n (by decide)]⟩
  have k0 := key 0 (p + 1) (Or.inl ⟨rfl, rfl⟩)
  have k1 := key 1 (p + 0) (Or.inr ⟨rfl, rfl⟩)
  obtain ⟨A0, hA0⟩ : ∃ A : mu_T, A = st_ (st_ (st_ ν 0 19 0) 6 (4 * o + 1) (H - 97)) 0 16 (p + 1) := ⟨_, rfl⟩
  obtain ⟨A1, hA1⟩ : ∃ A : mu_T, A = st_ (st_ (st_ ν 0 19 1) 6 (4 * o + 1) (H - 97)) 0 16 (p + 0) := ⟨_, rfl⟩
  rw [← hA0] at k0
  rw [← hA1] at k1
  have eA : f_X12_letter ν 1 = eq_ (ν 0 19) 0 (if 97 ≤ H ∧ H ≤ 102 then some A0 else some A1) (some A1) := by
    unfold f_X12_letter
    rw [nm_q (ν 0 19)]
    simp only [jn_e]
    rw [k0, k1, eh, bd_some, e_in hT (by decide) (by decide), bd_some, tr_0]
  rw [eA]
  by_cases hok : (mt_ T L l p0).1 = true
  · have hw0 : ν 0 19 = 0 := by
      rcases hz.2.2 with z | z
      · exact z.2.1
      · rw [z.1] at hok
        exact absurd hok (by decide)
    have hl0 := hl hok
    rw [eq_y hw0]
    have hvt : vt_ T L 64 p = if p < L then (if 97 ≤ T p ∧ T p ≤ 102 then T p - 97 else -1) else -1 := by
      unfold vt_
      rw [if_neg (show ¬ ((64 : Int) = 35 ∨ (64 : Int) = 36) by decide), if_pos (show (64 : Int) = 64 from rfl)]
    by_cases g : p < L ∧ 97 ≤ T p ∧ T p ≤ 102
    · have v1 : vt_ T L 64 p = T p - 97 := by rw [hvt, if_pos g.1, if_pos g.2]
      have hHT : H = T p := by rw [hH, if_pos g.1]
      rw [if_pos (hg.mpr g), hA0]
      have hwd : wd_ T L 64 p = 1 := if_neg (fun q => absurd q.1 (by decide))
      have hvl : vl_ T L 64 p = vt_ T L 64 p := if_neg (fun q => absurd q.1 (by decide))
      have hmt : mt_ T L [64] p = (true, p + 1, [T p - 97]) := by
        rw [mt_t (by omega), mt_n, if_pos (Or.inr (Or.inr rfl)), hwd, hvl, v1]
      refine ⟨_, rfl, ?_, fr _ _ _⟩
      refine pz_step hz hok ?_ ?_ ?_ ?_ ?_ (fun j hj => by omega) (fun _ j hj => ?_)
      · rw [st_n (by decide), st_n (by decide), st_n (by decide)]
      · rw [st_s, if_neg (by decide), st_n (by decide), st_s, if_neg (by decide)]
      · rw [st_s, if_neg (by decide), st_n (by decide), st_s, if_neg (by decide)]
      · rw [hpp, hmt, st_s, if_pos rfl]
      · rw [hpp, hmt, st_s, if_neg (by decide), st_n (by decide), st_s, if_pos rfl, if_pos rfl]
      · rw [hpp, hmt] at hj ⊢
        have hj0 : j = 0 := Nat.lt_one_iff.mp hj
        subst hj0
        rw [st_n (by decide), st_s, if_pos (by omega), hHT]
        rfl
    · have v1 : vt_ T L 64 p = -1 := by
        rw [hvt]
        by_cases h1 : p < L
        · rw [if_pos h1, if_neg (fun q => g ⟨h1, q⟩)]
        · rw [if_neg h1]
      have hmt : mt_ T L [64] p = (false, p, []) := mt_f (by omega)
      rw [if_neg (fun q => g (hg.mp q)), hA1]
      refine ⟨_, rfl, ?_, fr _ _ _⟩
      refine pz_step hz hok ?_ ?_ ?_ ?_ ?_ (fun j hj => by omega) (fun q => ?_)
      · rw [st_n (by decide), st_n (by decide), st_n (by decide)]
      · rw [st_s, if_neg (by decide), st_n (by decide), st_s, if_neg (by decide)]
      · rw [st_s, if_neg (by decide), st_n (by decide), st_s, if_neg (by decide)]
      · rw [hpp, hmt, st_s, if_pos rfl]
        exact Int.add_zero _
      · rw [hpp, hmt, st_s, if_neg (by decide), st_n (by decide), st_s, if_pos rfl, if_neg (show ¬ ((false, p, ([] : List Int)).1 = true) from Bool.false_ne_true)]
      · rw [hpp, hmt] at q
        exact (Bool.false_ne_true q).elim
  · have hof := Bool.eq_false_iff.mpr hok
    have hw1 : ν 0 19 = 1 := by
      rcases hz.2.2 with z | z
      · exact absurd z.1 hok
      · exact z.2
    rw [eq_n (by omega) (by decide) (by omega), hA1]
    refine ⟨_, rfl, pz_fail _ ⟨⟨?_, ?_, ?_⟩, ?_, Or.inr ⟨hof, ?_⟩⟩ hof, fr _ _ _⟩
    · rw [st_n (by decide), st_n (by decide), st_n (by decide)]
      exact hz.1.1
    · rw [st_s, if_neg (by decide), st_n (by decide), st_s, if_neg (by decide)]
      exact hz.1.2.1
    · rw [st_s, if_neg (by decide), st_n (by decide), st_s, if_neg (by decide)]
      exact hz.1.2.2
    · rw [st_s, if_pos rfl, hpp]
      exact Int.add_zero _
    · rw [st_s, if_neg (by decide), st_n (by decide), st_s, if_pos rfl]
end RN
