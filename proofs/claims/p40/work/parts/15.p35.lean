/-! the reference reads words, numbers and letters -/
section RZ
variable {ν : mu_T} {T : Int → Int} {L p0 o : Int}
/-- what the reference has read of its order so far: l -/
def pz_ (T : Int → Int) (L p0 o : Int) (ν : mu_T) (l : List Int) : Prop := (ν 5 = T ∧ ν 0 17 = L ∧ ν 0 18 = o) ∧ ν 0 16 = (mt_ T L l p0).2.1 ∧ (((mt_ T L l p0).1 = true ∧ ν 0 19 = 0 ∧ ∀ j : Nat, j < (mt_ T L l p0).2.2.length → ν 6 (4 * o + 1 + j) = (mt_ T L l p0).2.2.getD j 0) ∨ ((mt_ T L l p0).1 = false ∧ ν 0 19 = 1))
/-- what reading leaves alone -/
def fz_ (o : Int) (ν ν' : mu_T) : Prop := (∀ q, q ≠ 0 → q ≠ 6 → ν' q = ν q) ∧ (∀ j, j ≠ 16 → j ≠ 19 → ν' 0 j = ν 0 j) ∧ ∀ k, (k ≤ 4 * o ∨ 4 * o + 4 ≤ k) → ν' 6 k = ν 6 k
theorem fz_r : fz_ o ν ν := ⟨fun _ _ _ => rfl, fun _ _ _ => rfl, fun _ _ => rfl⟩
theorem fz_t {ν2 ν3 : mu_T} (h : fz_ o ν ν2) (h2 : fz_ o ν2 ν3) : fz_ o ν ν3 := ⟨fun q a b => (h2.1 q a b).trans (h.1 q a b), fun j a b => (h2.2.1 j a b).trans (h.2.1 j a b), fun k a => (h2.2.2 k a).trans (h.2.2 k a)⟩
/-- a text of the reference -/
def tl_ (T : Int → Int) (L p0 o : Int) : Prop := (0 ≤ L ∧ L ≤ 60) ∧ (∀ k, 0 ≤ k → k < L → 32 ≤ T k ∧ T k ≤ 126) ∧ (0 ≤ p0 ∧ p0 ≤ L) ∧ (0 ≤ o ∧ o ≤ 15)
theorem e_here {p : Int} (h5 : ν 5 = T) (h17 : ν 0 17 = L) (h16 : ν 0 16 = p) (hp : 0 ≤ p ∧ p ≤ L) (hL : L ≤ 60) : f_X12_here ν = some (if p < L then T p else -11) := by
  unfold f_X12_here
  rw [nm_q (ν 0 16), nm_q (ν 0 17), h16, h17]
  by_cases h : p < L
  · rw [lt_y (by omega) (by omega) h, if_pos h, nm_q, rd_e hp.1 (by omega), h5]
  · rw [lt_n (by omega) (by omega) h, if_neg h]
theorem pz_fail {l : List Int} (l2 : List Int) (h : pz_ T L p0 o ν l) (hf : (mt_ T L l p0).1 = false) : pz_ T L p0 o ν (l ++ l2) := by
  obtain ⟨h1, h2, h3⟩ := h
  obtain ⟨q1, q2⟩ := (mt_app (T := T) (L := L) l l2 p0).2 hf
  refine ⟨h1, by rw [q2]; exact h2, Or.inr ⟨q1, ?_⟩⟩
  rcases h3 with z | z
  · rw [z.1] at hf
    exact absurd hf (by decide)
  · exact z.2
theorem gd_al : ∀ (l l2 : List Int) (j : Nat), j < l.length → (l ++ l2).getD j 0 = l.getD j 0
  | [], _, _, h => absurd h (Nat.not_lt_zero _)
  | _ :: _, _, 0, _ => rfl
  | _ :: l, l2, j + 1, h => gd_al l l2 j (Nat.lt_of_succ_lt_succ h)
theorem gd_ar : ∀ (l l2 : List Int) (j : Nat), (l ++ l2).getD (l.length + j) 0 = l2.getD j 0
  | [], l2, j => by
    show l2.getD (0 + j) 0 = _
    rw [Nat.zero_add]
  | a :: l, l2, j => by
    show (a :: (l ++ l2)).getD (l.length + 1 + j) 0 = _
    rw [show l.length + 1 + j = (l.length + j) + 1 by omega]
    exact gd_ar l l2 j
theorem pz_step {l l2 : List Int} {ν1 : mu_T} (h : pz_ T L p0 o ν l) (hok : (mt_ T L l p0).1 = true) (k5 : ν1 5 = ν 5) (k17 : ν1 0 17 = ν 0 17) (k18 : ν1 0 18 = ν 0 18) (k16 : ν1 0 16 = (mt_ T L l2 (mt_ T L l p0).2.1).2.1) (k19 : ν1 0 19 = if (mt_ T L l2 (mt_ T L l p0).2.1).1 = true then 0 else 1) (kv : ∀ j : Nat, j < (mt_ T L l p0).2.2.length → ν1 6 (4 * o + 1 + j) = ν 6 (4 * o + 1 + j)) (kw : (mt_ T L l2 (mt_ T L l p0).2.1).1 = true → ∀ j : Nat, j < (mt_ T L l2 (mt_ T L l p0).2.1).2.2.length → ν1 6 (4 * o + 1 + (mt_ T L l p0).2.2.length + j) = (mt_ T L l2 (mt_ T L l p0).2.1).2.2.getD j 0) : pz_ T L p0 o ν1 (l ++ l2) := by
  obtain ⟨h1, h2, h3⟩ := h
  have e := (mt_app (T := T) (L := L) l l2 p0).1 hok
  have hv : ∀ j : Nat, j < (mt_ T L l p0).2.2.length → ν 6 (4 * o + 1 + j) = (mt_ T L l p0).2.2.getD j 0 := by
    rcases h3 with z | z
    · exact z.2.2
    · rw [z.1] at hok
      exact absurd hok (by decide)
  refine ⟨⟨k5.trans h1.1, k17.trans h1.2.1, k18.trans h1.2.2⟩, by rw [e]; exact k16, ?_⟩
  by_cases h2k : (mt_ T L l2 (mt_ T L l p0).2.1).1 = true
  · rw [if_pos h2k] at k19
    refine Or.inl ⟨by rw [e]; exact h2k, k19, fun j hj => ?_⟩
    rw [e] at hj ⊢
    show ν1 6 (4 * o + 1 + j) = ((mt_ T L l p0).2.2 ++ (mt_ T L l2 (mt_ T L l p0).2.1).2.2).getD j 0
    have hj2 : j < (mt_ T L l p0).2.2.length + (mt_ T L l2 (mt_ T L l p0).2.1).2.2.length := by
      rw [← List.length_append]
      exact hj
    by_cases hjl : j < (mt_ T L l p0).2.2.length
    · rw [kv j hjl, hv j hjl, gd_al _ _ _ hjl]
    · obtain ⟨j', rfl⟩ : ∃ j', j = (mt_ T L l p0).2.2.length + j' := ⟨j - (mt_ T L l p0).2.2.length, by omega⟩
      have q := kw h2k j' (by omega)
      rw [gd_ar, ← q]
      congr 1
      omega
  · rw [if_neg h2k] at k19
    refine Or.inr ⟨by rw [e]; exact Bool.eq_false_iff.mpr h2k, k19⟩
/-- where one stands -/
theorem pz_p {l : List Int} (ht : tl_ T L p0 o) (h : pz_ T L p0 o ν l) : 0 ≤ (mt_ T L l p0).2.1 ∧ (mt_ T L l p0).2.1 ≤ L := by
  have q := mt_b (T := T) (L := L) l p0
  have := q.2.1 ht.2.2.1.2
  have := ht.2.2.1
  omega
theorem l_wo {a : Int} (ht : tl_ T L p0 o) (ha : 0 ≤ a ∧ a < 21) (hn : snM_ a ≤ 10) : ∀ (w : List Int) (x : Int) (l : List Int), 0 ≤ x → snM_ a = x + w.length → (∀ j : Nat, j < w.length → scM_ a (x + j) = w.getD j 0) → (∀ c ∈ w, (32 ≤ c ∧ c < 127) ∧ c ≠ 35 ∧ c ≠ 36 ∧ c ≠ 64) → ∀ f : Nat, w.length < f → ∀ ν : mu_T, pz_ T L p0 o ν l → ∃ ν', f_X12_word_L2 a f x ν = some ν' ∧ pz_ T L p0 o ν' (l ++ w) ∧ fz_ o ν ν'
  | [], x, l, h0, h1, h2, h3, f, hf, ν, hz => by
    obtain ⟨f', rfl⟩ : ∃ f', f = f' + 1 := ⟨f - 1, by omega⟩
    have e : snM_ a = x := by
      rw [h1]
      show x + ((0 : Nat) : Int) = x
      omega
    refine ⟨ν, ?_, by rw [List.append_nil]; exact hz, fz_r⟩
    rw [f_X12_word_L2, gd_e ha, e_slenM ha, bd_some, e, lt_n (by omega) (by omega) (by omega)]
  | c :: w, x, l, h0, h1, h2, h3, f, hf, ν, hz => by
    obtain ⟨f', rfl⟩ : ∃ f', f = f' + 1 := ⟨f - 1, by omega⟩
    have hlen : snM_ a = x + 1 + w.length := by
      rw [h1]
      show x + ((w.length + 1 : Nat) : Int) = _
      omega
    obtain ⟨hc, hc1, hc2, hc3⟩ := h3 c List.mem_cons_self
    have hc0 : scM_ a x = c := by
      have q := h2 0 (Nat.succ_pos _)
      rw [show x + ((0 : Nat) : Int) = x by omega] at q
      exact q
    have hfl : w.length < f' := by
      have : w.length + 1 < f' + 1 := hf
      omega
    have hsc : ∀ j : Nat, j < w.length → scM_ a (x + 1 + j) = w.getD j 0 := fun j hj => by
      have q := h2 (j + 1) (Nat.succ_lt_succ hj)
      rw [show x + ((j + 1 : Nat) : Int) = x + 1 + j by omega] at q
      exact q
    have hp := pz_p ht hz
    rw [f_X12_word_L2, gd_e ha, e_slenM ha, bd_some, lt_y (by omega) (by omega) (by omega), nm_q]
    by_cases hok : (mt_ T L l p0).1 = true
    · have hw0 : ν 0 19 = 0 := by
        rcases hz.2.2 with z | z
        · exact z.2.1
        · rw [z.1] at hok
          exact absurd hok (by decide)
      generalize hpp : (mt_ T L l p0).2.1 = p at hp
      have eh := e_here hz.1.1 hz.1.2.1 (hz.2.1.trans hpp) hp ht.1.2
      rw [eq_y hw0, eh, bd_some, gd_e ha, e_schM ha ⟨h0, by omega⟩ hn (by omega), bd_some, hc0]
      simp only [jn_e, nm_q]
      have hvt : vt_ T L c p = if p < L then (if T p = c then 0 else -1) else -1 := by
        unfold vt_
        rw [if_neg (show ¬ (c = 35 ∨ c = 36) by omega), if_neg hc3]
      by_cases hm : p < L ∧ T p = c
      · have hv0 : vt_ T L c p = 0 := by rw [hvt, if_pos hm.1, if_pos hm.2]
        have hmt : mt_ T L [c] p = (true, p + 1, []) := by
          rw [mt_t (by omega), mt_n, if_neg (by omega)]
          show (true, p + wd_ T L c p, []) = _
          unfold wd_
          rw [if_neg (fun q => hc1 q.1)]
        have hz1 : pz_ T L p0 o (st_ (st_ ν 0 19 0) 0 16 (p + 1)) (l ++ [c]) := pz_step hz hok (by rw [st_n (by decide), st_n (by decide)]) (by rw [st_s, if_neg (by decide), st_s, if_neg (by decide)]) (by rw [st_s, if_neg (by decide), st_s, if_neg (by decide)]) (by rw [hpp, hmt, st_s, if_pos rfl]) (by rw [hpp, hmt, st_s, if_neg (by decide), st_s, if_pos rfl, if_pos rfl]) (fun j hj => by rw [st_n (by decide), st_n (by decide)]) (fun _ j hj => by
          rw [hpp, hmt] at hj
          exact absurd hj (Nat.not_lt_zero _))
        obtain ⟨ν', b1, b2, b3⟩ := l_wo ht ha hn w (x + 1) (l ++ [c]) (by omega) hlen hsc (fun d hd => h3 d (List.mem_cons_of_mem _ hd)) f' hfl _ hz1
        refine ⟨ν', ?_, by rw [List.append_assoc] at b2; exact b2, fz_t ⟨fun q q0 q1 => by rw [st_n q0, st_n q0], fun j j0 j1 => by rw [st_s, if_neg j0, st_s, if_neg j1], fun k _ => by rw [st_n (by decide), st_n (by decide)]⟩ b3⟩
        rw [if_pos hm.1, eq_y hm.2, wz_e (Or.inl rfl)]
        have e19 : (st_ ν 0 19 0) 0 19 = 0 := by rw [st_s, if_pos rfl]
        have e16 : (st_ ν 0 19 0) 0 16 = p := by rw [st_s, if_neg (by decide), hz.2.1, hpp]
        rw [eq_y e19, e16, wf_e]
        exact b1
      · have hv0 : vt_ T L c p = -1 := by
          rw [hvt]
          by_cases h1 : p < L
          · rw [if_pos h1, if_neg (fun q => hm ⟨h1, q⟩)]
          · rw [if_neg h1]
        have hmt : mt_ T L [c] p = (false, p, []) := mt_f (by omega)
        have hz1 : pz_ T L p0 o (st_ (st_ ν 0 19 1) 0 16 (p + 0)) (l ++ [c]) := pz_step hz hok (by rw [st_n (by decide), st_n (by decide)]) (by rw [st_s, if_neg (by decide), st_s, if_neg (by decide)]) (by rw [st_s, if_neg (by decide), st_s, if_neg (by decide)]) (by rw [hpp, hmt, st_s, if_pos rfl]; exact Int.add_zero _) (by rw [hpp, hmt, st_s, if_neg (by decide), st_s, if_pos rfl, if_neg (show ¬ ((false, p, ([] : List Int)).1 = true) from Bool.false_ne_true)]) (fun j hj => by rw [st_n (by decide), st_n (by decide)]) (fun q => by
          rw [hpp, hmt] at q
          exact (Bool.false_ne_true q).elim)
        obtain ⟨ν', b1, b2, b3⟩ := l_wo ht ha hn w (x + 1) (l ++ [c]) (by omega) hlen hsc (fun d hd => h3 d (List.mem_cons_of_mem _ hd)) f' hfl _ hz1
        refine ⟨ν', ?_, by rw [List.append_assoc] at b2; exact b2, fz_t ⟨fun q q0 q1 => by rw [st_n q0, st_n q0], fun j j0 j1 => by rw [st_s, if_neg j0, st_s, if_neg j1], fun k _ => by rw [st_n (by decide), st_n (by decide)]⟩ b3⟩
        have hT : rg_ (if p < L then T p else -11) := by
          by_cases h1 : p < L
          · have := ht.2.1 p hp.1 h1
            rw [if_pos h1]
            omega
          · rw [if_neg h1]
            decide
        rw [eq_n hT (by omega) (fun q => by
          by_cases h1 : p < L
          · rw [if_pos h1] at q
            exact hm ⟨h1, q⟩
          · rw [if_neg h1] at q
            omega), wz_e (Or.inr rfl)]
        have e19 : (st_ ν 0 19 1) 0 19 = 1 := by rw [st_s, if_pos rfl]
        have e16 : (st_ ν 0 19 1) 0 16 = p := by rw [st_s, if_neg (by decide), hz.2.1, hpp]
        rw [e19, eq_n (by decide) (by decide) (by decide), e16, wf_e]
        exact b1
    · have hof := Bool.eq_false_iff.mpr hok
      have hw1 : ν 0 19 = 1 := by
        rcases hz.2.2 with z | z
        · exact absurd z.1 hok
        · exact z.2
      rw [hw1, eq_n (by decide) (by decide) (by decide)]
      exact ⟨ν, rfl, pz_fail _ hz hof, fz_r⟩
theorem z_word {a : Int} {l : List Int} (ht : tl_ T L p0 o) (ha : 0 ≤ a ∧ a < 21) (hw : ∀ c ∈ fkM_ a, c ≠ 35 ∧ c ≠ 36 ∧ c ≠ 64) (hz : pz_ T L p0 o ν l) : ∃ ν', f_X12_word ν a = some ν' ∧ pz_ T L p0 o ν' (l ++ fkM_ a) ∧ fz_ o ν ν' := by
  obtain ⟨F, hF, hF2⟩ := F_big
  have hl := fm_lM a.toNat (by omega)
  have hn : snM_ a ≤ 10 := by
    unfold snM_
    omega
  unfold f_X12_word
  rw [← hF2]
  exact l_wo ht ha hn (fkM_ a) 0 l (by decide) (by unfold snM_ fkM_; omega) (fun j hj => by
    unfold scM_ fkM_
    rw [show (0 + (j : Int)).toNat = j by omega]) (fun c hc => ⟨fm_cM a.toNat (by omega) c hc, hw c hc⟩) F (by unfold fkM_; omega) ν hz
theorem e_tells {k v : Int} (h18 : ν 0 18 = o) (ho : 0 ≤ o ∧ o ≤ 15) (hk : 0 ≤ k ∧ k ≤ 3) : f_X12_tells ν k v = some (st_ ν 6 (4 * o + k) v) := by
  unfold f_X12_tells
  rw [nm_q, h18, wr_e (by omega) (by omega)]
/-- the end of a number -/
theorem e_nend {k n d w : Int} (h18 : ν 0 18 = o) (ho : 0 ≤ o ∧ o ≤ 15) (hk : 0 ≤ k ∧ k ≤ 3) (h19 : ν 0 19 = w) (hw : w = 0 ∨ w = 1) (hd : rg_ d) : nm_ (ν 0 19) (fun v63 => jn_ (φ := Int → Option mu_T) (fun s0_79 => wz_ ν 0 19 s0_79 (fun μ79 => bd_ (f_X12_tells μ79 k n) (fun μ85 => some μ85))) (fun J79 => jn_ (φ := Unit → Option mu_T) (fun _ => J79 1) (fun J74 => eq_ v63 0 (eq_ d 0 (J74 ()) (J79 0)) (J74 ())))) = some (st_ (st_ ν 0 19 (if w = 0 ∧ d ≠ 0 then 0 else 1)) 6 (4 * o + k) n) := by
  have key : ∀ v : Int, (v = 0 ∨ v = 1) → wz_ ν 0 19 v (fun μ79 => bd_ (f_X12_tells μ79 k n) (fun μ85 => some μ85)) = some (st_ (st_ ν 0 19 v) 6 (4 * o + k) n) := fun v hv => by
    rw [wz_e hv, e_tells (o := o) (by rw [st_s, if_neg (by decide)]; exact h18) ho hk, bd_some]
  simp only [jn_e, nm_q]
  rw [key 1 (Or.inr rfl), key 0 (Or.inl rfl), h19]
  rcases hw with rfl | rfl
  · rw [eq_y rfl]
    by_cases h0 : d = 0
    · rw [eq_y h0, if_neg (fun q => q.2 h0)]
    · rw [eq_n hd (by decide) h0, if_pos ⟨rfl, h0⟩]
  · rw [eq_n (by decide) (by decide) (by decide), if_neg (fun q => absurd q.1 (by decide))]
end RZ
