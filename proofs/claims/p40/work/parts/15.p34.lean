/-! the program reads a form -/
def fk9_ (k : Int) : List Int := skl_.getD k.toNat []
theorem fm_c : ∀ k : Nat, k < 16 → ∀ c ∈ skl_.getD k [], 32 ≤ c ∧ c < 127 := by decide +kernel
theorem fm_l : ∀ k : Nat, k < 16 → (skl_.getD k []).length ≤ 10 := by decide +kernel
theorem sr_z9 : ∀ n : Nat, n ≤ 10 → sr_ (n : Int) 0 = n := by decide +kernel
section PF
variable {μ ν : mu_T} {T : Int → Int} {L : Int}
theorem e_slen {a : Int} (ha : 0 ≤ a ∧ a < 16) : f_J0_length_8abf5 μ a = some (sn_ a) := by
  unfold f_J0_length_8abf5 f_J0_coder_7d493
  rw [gd_e ha, gd_e ha, gd_e ha, eq_n (by decide) (by decide) (by decide), gd_e ha, bd_some]
  unfold sn_
  rw [sr_z9 _ (fm_l a.toNat (by omega))]
theorem e_sch {a i : Int} (ha : 0 ≤ a ∧ a < 16) (hi : 0 ≤ i ∧ i < sn_ a) (hn : sn_ a ≤ 10) (hc : 0 ≤ sc_ a i ∧ sc_ a i < 128) : f_J0_charAt_5068e μ a i = some (sc_ a i) := by
  unfold f_J0_charAt_5068e f_J0_isLatin1_aae02 f_J1_charAt_3b067 f_J0_checkIndex_df160 f_J3_checkIndex_8e157
  rw [gd_e ha, eq_n (by decide) (by decide) (by decide), gd_e ha, eq_y rfl, bd_some, eq_n (by decide) (by decide) (by decide), gd_e ha, gd_e ha, lt_n (by omega) (by decide) (by omega), lt_y (by omega) (by omega) hi.2, bd_some, bd_some]
  have e1 : rs_ a i (fun v8 => rc_ (i2c_ (an_ v8 255))) = rc_ (i2c_ (an_ (sc_ a i) 255)) := if_pos ⟨ha, hi⟩
  rw [e1, an_255 hc, i2c_n hc]
  unfold rc_
  rw [if_pos (by omega), bd_some, if_pos (by omega)]
def fkM_ (k : Int) : List Int := sklM_.getD k.toNat []
theorem fm_cM : ∀ k : Nat, k < 21 → ∀ c ∈ sklM_.getD k [], 32 ≤ c ∧ c < 127 := by decide +kernel
theorem fm_lM : ∀ k : Nat, k < 21 → (sklM_.getD k []).length ≤ 10 := by decide +kernel
theorem e_slenM {a : Int} (ha : 0 ≤ a ∧ a < 21) : f_G0_length_8abf5 μ a = some (snM_ a) := by
  unfold f_G0_length_8abf5 f_G0_coder_7d493
  rw [gd_e ha, gd_e ha, gd_e ha, eq_n (by decide) (by decide) (by decide), gd_e ha, bd_some]
  unfold snM_
  rw [sr_z9 _ (fm_lM a.toNat (by omega))]
theorem e_schM {a i : Int} (ha : 0 ≤ a ∧ a < 21) (hi : 0 ≤ i ∧ i < snM_ a) (hn : snM_ a ≤ 10) (hc : 0 ≤ scM_ a i ∧ scM_ a i < 128) : f_G0_charAt_5068e μ a i = some (scM_ a i) := by
  unfold f_G0_charAt_5068e f_G0_isLatin1_aae02 f_G1_charAt_3b067 f_G0_checkIndex_df160 f_J3_checkIndex_8e157
  rw [gd_e ha, eq_n (by decide) (by decide) (by decide), gd_e ha, eq_y rfl, bd_some, eq_n (by decide) (by decide) (by decide), gd_e ha, gd_e ha, lt_n (by omega) (by decide) (by omega), lt_y (by omega) (by omega) hi.2, bd_some, bd_some]
  have e1 : rsM_ a i (fun v8 => rc_ (i2c_ (an_ v8 255))) = rc_ (i2c_ (an_ (scM_ a i) 255)) := if_pos ⟨ha, hi⟩
  rw [e1, an_255 hc, i2c_n hc]
  unfold rc_
  rw [if_pos (by omega), bd_some, if_pos (by omega)]
/-- the program's text -/
def xt_ (μ : mu_T) (T : Int → Int) (L : Int) : Prop := sb_ μ 141 142 L ∧ (∀ k, 0 ≤ k → k < L → μ 142 k = T k ∧ 32 ≤ T k ∧ T k ≤ 126) ∧ L ≤ 60
theorem xt_k {μ1 : mu_T} (h1 : μ1 141 = μ 141) (h2 : μ1 142 = μ 142) (h : xt_ μ T L) : xt_ μ1 T L := by
  unfold xt_ sb_ bl_
  rw [h1, h2]
  exact h
theorem e_valueAt (hx : xt_ μ T L) {i c : Int} (hi : 0 ≤ i ∧ i ≤ 70) (hc : rg_ c) : f_X6_valueAt μ i c = some (vt_ T L c i) := by
  obtain ⟨h1, h2, h3⟩ := hx
  have h0 := h1.2.2.1.1
  unfold f_X6_valueAt vt_
  rw [lt_n (by omega) (by decide) (by omega), e_ln141 h1, bd_some]
  by_cases hl : i < L
  · have w := h2 i hi.1 hl
    rw [lt_y (by omega) (by omega) hl, if_pos hl, e_ca141 h1 ⟨hi.1, hl⟩ (by omega), bd_some, w.1]
    simp only [jn_e]
    have dig : lt_ (T i) 48 (some (-1)) (lt_ 57 (T i) (some (-1)) (some (T i - 48))) = some (if 48 ≤ T i ∧ T i ≤ 57 then T i - 48 else -1) := by
      rw [lt_if (by omega) (by decide), lt_if (by decide) (by omega)]
      by_cases q1 : T i < 48
      · rw [if_pos q1, if_neg (by omega)]
      · rw [if_neg q1]
        by_cases q2 : 57 < T i
        · rw [if_pos q2, if_neg (by omega)]
        · rw [if_neg q2, if_pos (by omega)]
    rw [dig]
    by_cases c1 : c = 35
    · rw [eq_y c1, if_pos (Or.inl c1)]
    · rw [eq_n hc (by decide) c1]
      by_cases c2 : c = 36
      · rw [eq_y c2, if_pos (Or.inr c2)]
      · rw [eq_n hc (by decide) c2, if_neg (by omega)]
        by_cases c3 : c = 64
        · rw [eq_y c3, if_pos c3, lt_if (by omega) (by decide), lt_if (by omega) (by decide)]
          by_cases q1 : T i < 97
          · rw [if_pos q1, if_neg (by omega)]
          · rw [if_neg q1]
            by_cases q2 : T i < 103
            · rw [if_pos q2, if_pos (by omega)]
            · rw [if_neg q2, if_neg (by omega)]
        · rw [eq_n hc (by decide) c3, if_neg c3]
          by_cases c4 : T i = c
          · rw [eq_y c4, if_pos c4]
          · rw [eq_n (by omega) hc c4, if_neg c4]
  · rw [lt_n (by omega) (by omega) hl, if_neg hl]
theorem e_readSign (hx : xt_ μ T L) {p c : Int} (hp : μ 140 7 = p) (hp2 : 0 ≤ p ∧ p ≤ 65) (hc : rg_ c) : (vt_ T L c p < 0 → f_X6_readSign μ c = some (-1, μ)) ∧ (¬ vt_ T L c p < 0 → ∃ μ', f_X6_readSign μ c = some (vl_ T L c p, μ') ∧ μ' 140 7 = p + wd_ T L c p ∧ (∀ q, q ≠ 140 → μ' q = μ q) ∧ ∀ j, j ≠ 7 → μ' 140 j = μ 140 j) := by
  have v1 := vt_b (T := T) (L := L) (c := c) (p := p)
  have v2 := vt_b (T := T) (L := L) (c := c) (p := p + 1)
  refine ⟨fun h => ?_, fun h => ?_⟩
  · unfold f_X6_readSign
    rw [nm_q, hp, e_valueAt hx (by omega) hc, bd_some, lt_y (by omega) (by decide) h]
  · have hx1 : xt_ (st_ μ 140 7 (p + 1)) T L := xt_k (st_n (by decide)) (st_n (by decide)) hx
    have e7 : (st_ μ 140 7 (p + 1)) 140 7 = p + 1 := by rw [st_s, if_pos rfl]
    have key : ∀ w : Int, (w = -1 ∨ 0 ≤ w) → rg_ w → ∃ μ', lt_ w 0 (some (vt_ T L c p, st_ μ 140 7 (p + 1))) (nm_ ((st_ μ 140 7 (p + 1)) 140 7) (fun v52 => wf_ (st_ μ 140 7 (p + 1)) 140 7 (v52 + 1) (fun μ57 => nm_ (vt_ T L c p * 10 + w) (fun n66 => some (n66, μ57))))) = some (if 0 ≤ w then vt_ T L c p * 10 + w else vt_ T L c p, μ') ∧ μ' 140 7 = p + (if 0 ≤ w then 2 else 1) ∧ (∀ q, q ≠ 140 → μ' q = μ q) ∧ ∀ j, j ≠ 7 → μ' 140 j = μ 140 j := fun w hw hr => by
      by_cases h0 : 0 ≤ w
      · rw [lt_n hr (by decide) (by omega), nm_q, e7, wf_e, nm_q, if_pos h0, if_pos h0]
        refine ⟨_, rfl, by rw [st_s, if_pos rfl]; omega, fun q hq => by rw [st_n hq, st_n hq], fun j hj => by rw [st_s, if_neg hj, st_s, if_neg hj]⟩
      · rw [lt_y hr (by decide) (by omega), if_neg h0, if_neg h0]
        exact ⟨_, rfl, e7, fun q hq => st_n hq, fun j hj => by rw [st_s, if_neg hj]⟩
    by_cases c1 : c = 35
    · obtain ⟨μ', a1, a2, a3, a4⟩ := key (vt_ T L c (p + 1)) (by omega) (by omega)
      refine ⟨μ', ?_, ?_, a3, a4⟩
      · unfold f_X6_readSign
        rw [nm_q, hp, e_valueAt hx (by omega) hc, bd_some, lt_n (by omega) (by decide) h, nm_q, wf_e]
        simp only [jn_e]
        rw [eq_y c1, nm_q, e7, e_valueAt hx1 (by omega) hc, bd_some]
        refine a1.trans ?_
        unfold vl_
        by_cases h0 : 0 ≤ vt_ T L c (p + 1)
        · rw [if_pos h0, if_pos ⟨c1, h0⟩]
        · rw [if_neg h0, if_neg (fun q => h0 q.2)]
      · rw [a2]
        unfold wd_
        by_cases h0 : 0 ≤ vt_ T L c (p + 1)
        · rw [if_pos h0, if_pos ⟨c1, h0⟩]
        · rw [if_neg h0, if_neg (fun q => h0 q.2)]
    · obtain ⟨μ', a1, a2, a3, a4⟩ := key (-1) (Or.inl rfl) (by decide)
      refine ⟨μ', ?_, ?_, a3, a4⟩
      · unfold f_X6_readSign
        rw [nm_q, hp, e_valueAt hx (by omega) hc, bd_some, lt_n (by omega) (by decide) h, nm_q, wf_e]
        simp only [jn_e]
        rw [eq_n hc (by decide) c1]
        refine a1.trans ?_
        unfold vl_
        rw [if_neg (by decide), if_neg (fun q => c1 q.1)]
      · rw [a2]
        unfold wd_
        rw [if_neg (by decide), if_neg (fun q => c1 q.1)]
theorem e_isNum {c : Int} (hc : rg_ c) : f_X6_isForNumber μ c = some (if c = 35 ∨ c = 36 ∨ c = 64 then 1 else 0) := by
  unfold f_X6_isForNumber
  by_cases c1 : c = 35
  · rw [eq_y c1, if_pos (Or.inl c1)]
  · rw [eq_n hc (by decide) c1]
    by_cases c2 : c = 36
    · rw [eq_y c2, if_pos (Or.inr (Or.inl c2))]
    · rw [eq_n hc (by decide) c2]
      by_cases c3 : c = 64
      · rw [eq_y c3, if_pos (Or.inr (Or.inr c3))]
      · rw [eq_n hc (by decide) c3, if_neg (by omega)]
theorem l_fit {a : Int} (ha : 0 ≤ a ∧ a < 16) (hn : sn_ a ≤ 10) : ∀ (l : List Int) (sg fo : Int), 0 ≤ sg → sn_ a = sg + l.length → (∀ j : Nat, j < l.length → sc_ a (sg + j) = l.getD j 0) → (∀ c ∈ l, 32 ≤ c ∧ c < 127) → ∀ f : Nat, l.length < f → ∀ (μ : mu_T) (p : Int), xt_ μ T L → μ 140 7 = p → 0 ≤ p → p ≤ L → (0 ≤ fo ∧ fo ≤ 3) → ∃ μ', f_X6_fits_L4 a f fo sg μ = some (if (mt_ T L l p).1 = true then 1 else 0, μ') ∧ μ' 140 7 = (mt_ T L l p).2.1 ∧ (∀ q, q ≠ 140 → q ≠ 147 → μ' q = μ q) ∧ (∀ j, j ≠ 7 → μ' 140 j = μ 140 j) ∧ ((mt_ T L l p).1 = true → ∀ j : Nat, j < (mt_ T L l p).2.2.length → fo + j < 3 → μ' 147 (fo + j) = (mt_ T L l p).2.2.getD j 0) ∧ (∀ j, j < fo → μ' 147 j = μ 147 j)
  | [], sg, fo, h0, h1, h2, h3, f, hf, μ, p, hx, hp, p0, p1, hfo => by
    obtain ⟨f', rfl⟩ : ∃ f', f = f' + 1 := ⟨f - 1, by omega⟩
    have e : sn_ a = sg := by
      rw [h1]
      show sg + ((0 : Nat) : Int) = sg
      omega
    rw [mt_n]
    refine ⟨μ, ?_, hp, fun _ _ _ => rfl, fun _ _ => rfl, fun _ j hj => absurd hj (Nat.not_lt_zero _), fun _ _ => rfl⟩
    rw [f_X6_fits_L4, gd_e ha, e_slen ha, bd_some, e, lt_n (by omega) (by omega) (by omega), if_pos rfl]
  | c :: cs, sg, fo, h0, h1, h2, h3, f, hf, μ, p, hx, hp, p0, p1, hfo => by
    obtain ⟨f', rfl⟩ : ∃ f', f = f' + 1 := ⟨f - 1, by omega⟩
    have hlen : sn_ a = sg + 1 + cs.length := by
      rw [h1]
      show sg + ((cs.length + 1 : Nat) : Int) = _
      omega
    have hc := h3 c List.mem_cons_self
    have hc0 : sc_ a sg = c := by
      have q := h2 0 (Nat.succ_pos _)
      rw [show sg + ((0 : Nat) : Int) = sg by omega] at q
      exact q
    have hL := hx.2.2
    obtain ⟨w1, w2⟩ := e_readSign hx hp ⟨p0, by omega⟩ (c := c) (by omega)
    have hfl : cs.length < f' := by
      have : cs.length + 1 < f' + 1 := hf
      omega
    rw [f_X6_fits_L4, gd_e ha, e_slen ha, bd_some, lt_y (by omega) (by omega) (by omega), gd_e ha, e_sch ha ⟨h0, by omega⟩ hn (by omega), bd_some, hc0]
    by_cases hv : vt_ T L c p < 0
    · rw [mt_f hv, w1 hv, bp_some, lt_y (by decide) (by decide) (by decide), if_neg (show ¬ ((false, p, ([] : List Int)).1 = true) from Bool.false_ne_true)]
      exact ⟨μ, rfl, hp, fun _ _ _ => rfl, fun _ _ => rfl, fun q => (Bool.false_ne_true q).elim, fun _ _ => rfl⟩
    · obtain ⟨μ1, a1, a2, a3, a4⟩ := w2 hv
      have hvl := vl_b (T := T) (L := L) (c := c) (p := p) (by omega)
      have hwd := wd_b (T := T) (L := L) (c := c) (p := p)
      have hpL := (vt_b (T := T) (L := L) (c := c) (p := p)).2.2.2 (by omega)
      have hx1 : xt_ μ1 T L := xt_k (a3 141 (by decide)) (a3 142 (by decide)) hx
      rw [mt_t hv, a1, bp_some, lt_n (by omega) (by decide) (by omega), e_isNum (by omega), bd_some]
      simp only [jn_e, nm_q]
      have hsc : ∀ j : Nat, j < cs.length → sc_ a (sg + 1 + j) = cs.getD j 0 := fun j hj => by
        have q := h2 (j + 1) (Nat.succ_lt_succ hj)
        rw [show sg + ((j + 1 : Nat) : Int) = sg + 1 + j by omega] at q
        exact q
      by_cases hb : c = 35 ∨ c = 36 ∨ c = 64
      · rw [if_pos hb, eq_n (by decide) (by decide) (by decide)]
        by_cases hf3 : fo < 3
        · obtain ⟨μ', b1, b2, b3, b4, b5, b6⟩ := l_fit ha hn cs (sg + 1) (fo + 1) (by omega) hlen hsc (fun d hd => h3 d (List.mem_cons_of_mem _ hd)) f' hfl (st_ μ1 147 fo (vl_ T L c p)) (p + wd_ T L c p) (xt_k (st_n (by decide)) (st_n (by decide)) hx1) (by rw [st_n (by decide)]; exact a2) (by omega) (hwd.2 hpL) (by omega)
          refine ⟨μ', ?_, b2, fun q q0 q1 => by rw [b3 q q0 q1, st_n q1, a3 q q0], fun j hj => by rw [b4 j hj, st_n (by decide), a4 j hj], fun hok j hj h3' => ?_, fun j hj => ?_⟩
          · rw [lt_y (by omega) (by decide) hf3, wr_e hfo.1 (by omega)]
            exact b1
          · simp only [if_pos hb] at hj ⊢
            cases j with
            | zero =>
              have q := b6 fo (by omega)
              rw [show fo + ((0 : Nat) : Int) = fo by omega, q, st_s, if_pos rfl]
              rfl
            | succ j =>
              have q := b5 hok j (by
                have : j + 1 < (mt_ T L cs (p + wd_ T L c p)).2.2.length + 1 := hj
                omega) (by omega)
              rw [show fo + ((j + 1 : Nat) : Int) = fo + 1 + j by omega, q]
              rfl
          · rw [b6 j (by omega), st_s, if_neg (by omega), a3 147 (by decide)]
        · obtain ⟨μ', b1, b2, b3, b4, b5, b6⟩ := l_fit ha hn cs (sg + 1) fo (by omega) hlen hsc (fun d hd => h3 d (List.mem_cons_of_mem _ hd)) f' hfl μ1 (p + wd_ T L c p) hx1 a2 (by omega) (hwd.2 hpL) hfo
          refine ⟨μ', ?_, b2, fun q q0 q1 => by rw [b3 q q0 q1, a3 q q0], fun j hj => by rw [b4 j hj, a4 j hj], fun hok j hj h3' => by omega, fun j hj => by rw [b6 j hj, a3 147 (by decide)]⟩
          rw [lt_n (by omega) (by decide) hf3]
          exact b1
      · rw [if_neg hb, eq_y rfl]
        obtain ⟨μ', b1, b2, b3, b4, b5, b6⟩ := l_fit ha hn cs (sg + 1) fo (by omega) hlen hsc (fun d hd => h3 d (List.mem_cons_of_mem _ hd)) f' hfl μ1 (p + wd_ T L c p) hx1 a2 (by omega) (hwd.2 hpL) hfo
        refine ⟨μ', b1, b2, fun q q0 q1 => by rw [b3 q q0 q1, a3 q q0], fun j hj => by rw [b4 j hj, a4 j hj], fun hok j hj h3' => ?_, fun j hj => by rw [b6 j hj, a3 147 (by decide)]⟩
        simp only [if_neg hb] at hj ⊢
        exact b5 hok j hj h3'
theorem e_fits {k p : Int} (hk : 0 ≤ k ∧ k < 16) (hx : xt_ μ T L) (hp : μ 140 7 = p) (p0 : 0 ≤ p) (p1 : p ≤ L) : ∃ μ', f_X6_fits μ k = some (if (mt_ T L (fk9_ k) p).1 = true then 1 else 0, μ') ∧ μ' 140 7 = (mt_ T L (fk9_ k) p).2.1 ∧ (∀ q, q ≠ 140 → q ≠ 147 → μ' q = μ q) ∧ (∀ j, j ≠ 7 → μ' 140 j = μ 140 j) ∧ ((mt_ T L (fk9_ k) p).1 = true → ∀ j : Nat, j < (mt_ T L (fk9_ k) p).2.2.length → j < 3 → μ' 147 j = (mt_ T L (fk9_ k) p).2.2.getD j 0) := by
  obtain ⟨F, hF, hF2⟩ := F_big
  have hl := fm_l k.toNat (by omega)
  have hn : sn_ k ≤ 10 := by
    unfold sn_
    omega
  obtain ⟨μ', a1, a2, a3, a4, a5, a6⟩ := l_fit hk hn (fk9_ k) 0 0 (by decide) (by unfold sn_ fk9_; omega) (fun j hj => by
    unfold sc_ fk9_
    rw [show (0 + (j : Int)).toNat = j by omega]) (fm_c k.toNat (by omega)) F (by unfold fk9_; omega) μ p hx hp p0 p1 (by decide)
  refine ⟨μ', ?_, a2, a3, a4, fun hok j hj h3 => ?_⟩
  · unfold f_X6_fits
    rw [← hF2]
    exact a1
  · have q := a5 hok j hj (by omega)
    rw [Int.zero_add] at q
    exact q
end PF
