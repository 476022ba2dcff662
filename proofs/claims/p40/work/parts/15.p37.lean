/-! the reference reads an order -/
theorem t9_0 {α : Type} {b0 b1 b2 b3 b4 b5 b6 b7 b8 df : Option α} : ts_ 117 [117, 116, 118, 110, 100, 119, 114, 115, 105] [b0, b1, b2, b3, b4, b5, b6, b7, b8] df = b0 := rfl
theorem t9_1 {α : Type} {b0 b1 b2 b3 b4 b5 b6 b7 b8 df : Option α} : ts_ 116 [117, 116, 118, 110, 100, 119, 114, 115, 105] [b0, b1, b2, b3, b4, b5, b6, b7, b8] df = b1 := rfl
theorem t9_2 {α : Type} {b0 b1 b2 b3 b4 b5 b6 b7 b8 df : Option α} : ts_ 118 [117, 116, 118, 110, 100, 119, 114, 115, 105] [b0, b1, b2, b3, b4, b5, b6, b7, b8] df = b2 := rfl
theorem t9_3 {α : Type} {b0 b1 b2 b3 b4 b5 b6 b7 b8 df : Option α} : ts_ 110 [117, 116, 118, 110, 100, 119, 114, 115, 105] [b0, b1, b2, b3, b4, b5, b6, b7, b8] df = b3 := rfl
theorem t9_4 {α : Type} {b0 b1 b2 b3 b4 b5 b6 b7 b8 df : Option α} : ts_ 100 [117, 116, 118, 110, 100, 119, 114, 115, 105] [b0, b1, b2, b3, b4, b5, b6, b7, b8] df = b4 := rfl
theorem t9_5 {α : Type} {b0 b1 b2 b3 b4 b5 b6 b7 b8 df : Option α} : ts_ 119 [117, 116, 118, 110, 100, 119, 114, 115, 105] [b0, b1, b2, b3, b4, b5, b6, b7, b8] df = b5 := rfl
theorem t9_6 {α : Type} {b0 b1 b2 b3 b4 b5 b6 b7 b8 df : Option α} : ts_ 114 [117, 116, 118, 110, 100, 119, 114, 115, 105] [b0, b1, b2, b3, b4, b5, b6, b7, b8] df = b6 := rfl
theorem t9_7 {α : Type} {b0 b1 b2 b3 b4 b5 b6 b7 b8 df : Option α} : ts_ 115 [117, 116, 118, 110, 100, 119, 114, 115, 105] [b0, b1, b2, b3, b4, b5, b6, b7, b8] df = b7 := rfl
theorem t9_8 {α : Type} {b0 b1 b2 b3 b4 b5 b6 b7 b8 df : Option α} : ts_ 105 [117, 116, 118, 110, 100, 119, 114, 115, 105] [b0, b1, b2, b3, b4, b5, b6, b7, b8] df = b8 := rfl
theorem t9_d {α : Type} {b0 b1 b2 b3 b4 b5 b6 b7 b8 df : Option α} {a : Int} (ha : rg_ a) (h : a ≠ 117 ∧ a ≠ 116 ∧ a ≠ 118 ∧ a ≠ 110 ∧ a ≠ 100 ∧ a ≠ 119 ∧ a ≠ 114 ∧ a ≠ 115 ∧ a ≠ 105) : ts_ a [117, 116, 118, 110, 100, 119, 114, 115, 105] [b0, b1, b2, b3, b4, b5, b6, b7, b8] df = df := by
  unfold ts_
  rw [if_pos ha]
  simp only [tw_]
  rw [if_neg (by omega), if_neg (by omega), if_neg (by omega), if_neg (by omega), if_neg (by omega), if_neg (by omega), if_neg (by omega), if_neg (by omega), if_neg (by omega)]
section RO
variable {ν : mu_T} {T : Int → Int} {L p0 o : Int}
theorem mt_nl : ∀ (l : List Int) (p : Int), (mt_ T L l p).1 = true → (mt_ T L l p).2.2.length = (l.filter (fun c => decide (c = 35 ∨ c = 36 ∨ c = 64))).length
  | [], p, _ => rfl
  | c :: cs, p, h => by
    by_cases hv : vt_ T L c p < 0
    · rw [mt_f hv] at h
      exact (Bool.false_ne_true h).elim
    · rw [mt_t hv] at h ⊢
      have q := mt_nl cs (p + wd_ T L c p) h
      by_cases hc : c = 35 ∨ c = 36 ∨ c = 64
      · rw [List.filter_cons_of_pos (by exact decide_eq_true hc)]
        simp only [if_pos hc]
        show (mt_ T L cs (p + wd_ T L c p)).2.2.length + 1 = _ + 1
        rw [q]
      · rw [List.filter_cons_of_neg (by rw [decide_eq_false hc]; decide)]
        simp only [if_neg hc]
        exact q
theorem nl_ {l : List Int} {n : Nat} (hn : (l.filter (fun c => decide (c = 35 ∨ c = 36 ∨ c = 64))).length = n) (p : Int) (h : (mt_ T L l p).1 = true) : (mt_ T L l p).2.2.length = n := (mt_nl l p h).trans hn
theorem lit_v {c p : Int} (hc : c ≠ 35 ∧ c ≠ 36 ∧ c ≠ 64) : vt_ T L c p = if p < L ∧ T p = c then 0 else -1 := by
  unfold vt_
  by_cases h : p < L
  · rw [if_pos h, if_neg (show ¬ (c = 35 ∨ c = 36) by omega), if_neg hc.2.2]
    by_cases h2 : T p = c
    · rw [if_pos h2, if_pos ⟨h, h2⟩]
    · rw [if_neg h2, if_neg (fun q => h2 q.2)]
  · rw [if_neg h, if_neg (fun q => h q.1)]
theorem hd_no {c p : Int} {cs : List Int} (hc : c ≠ 35 ∧ c ≠ 36 ∧ c ≠ 64) (h : ¬ (p < L ∧ T p = c)) : mt_ T L (c :: cs) p = (false, p, []) := mt_f (by rw [lit_v hc, if_neg h]; decide)
theorem hd_y {c p : Int} {cs : List Int} (hc : c ≠ 35 ∧ c ≠ 36 ∧ c ≠ 64) (h : p < L ∧ T p = c) : mt_ T L (c :: cs) p = mt_ T L cs (p + 1) := by
  have hwd : wd_ T L c p = 1 := if_neg (fun q => hc.1 q.1)
  rw [mt_t (by rw [lit_v hc, if_pos h]; decide), hwd, if_neg (by omega)]
theorem e_next {p : Int} (h5 : ν 5 = T) (h17 : ν 0 17 = L) (h16 : ν 0 16 = p) (hp : 0 ≤ p ∧ p ≤ L) (hL : L ≤ 60) : f_X12_next ν = some (if p + 1 < L then T (p + 1) else -11) := by
  unfold f_X12_next
  rw [nm_q (ν 0 16), nm_q (ν 0 17), h16, h17]
  by_cases h : p + 1 < L
  · rw [lt_y (by omega) (by omega) h, if_pos h, nm_q, rd_e (by omega) (by omega), h5]
  · rw [lt_n (by omega) (by omega) h, if_neg h]
theorem wl_10 : ∀ k : Nat, k < 21 → 10 ≤ k → ∀ c ∈ sklM_.getD k [], c ≠ 35 ∧ c ≠ 36 ∧ c ≠ 64 := by decide +kernel
theorem wl_k {a : Int} (h0 : 10 ≤ a) (h1 : a < 21) : ∀ c ∈ fkM_ a, c ≠ 35 ∧ c ≠ 36 ∧ c ≠ 64 := wl_10 a.toNat (by omega) (by omega)
theorem z_slot {a : Int} (ht : tl_ T L p0 o) (ha : 10 ≤ a ∧ a < 21) (hz : pz_ T L p0 o ν []) : ∃ ν', f_X12_slotOf ν a = some ν' ∧ pz_ T L p0 o ν' (fkM_ a ++ [35] ++ fkM_ 12 ++ [36]) ∧ fz_ o ν ν' := by
  have hw := wl_k ha.1 ha.2
  have f0 : (fkM_ a).filter (fun c => decide (c = 35 ∨ c = 36 ∨ c = 64)) = [] := List.filter_eq_nil_iff.mpr (fun c hc => by
    have q := hw c hc
    rw [decide_eq_false (by omega)]
    decide)
  obtain ⟨ν1, a1, a2, a3⟩ := z_word ht (by omega) hw hz
  rw [List.nil_append] at a2
  obtain ⟨ν2, b1, b2, b3⟩ := z_num (k := 1) (m := 2) (c := 35) ht (by decide) (Or.inl ⟨rfl, rfl⟩) (fun h => by rw [nl_ (n := 0) (by rw [f0]; rfl) _ h]; rfl) a2
  obtain ⟨ν3, c1, c2, c3⟩ := z_word (a := 12) ht (by decide) (wl_k (by decide) (by decide)) b2
  obtain ⟨ν4, d1, d2, d3⟩ := z_num (k := 2) (m := 1) (c := 36) ht (by decide) (Or.inr ⟨rfl, rfl⟩) (fun h => by rw [nl_ (n := 1) (by rw [List.filter_append, List.filter_append, f0]; rfl) _ h]; rfl) c2
  refine ⟨ν4, ?_, d2, fz_t a3 (fz_t b3 (fz_t c3 d3))⟩
  unfold f_X12_slotOf
  rw [a1, bd_some, b1, bd_some, c1, bd_some, d1, bd_some]
theorem zq_2 {J : mu_T → Option mu_T} (ht : tl_ T L p0 o) (hz : pz_ T L p0 o ν []) : ∃ ν', bd_ (f_X12_slotOf ν 11) (fun m1 => bd_ (f_X12_word m1 13) (fun m2 => bd_ (f_X12_number m2 3 2) (fun m3 => J m3))) = J ν' ∧ pz_ T L p0 o ν' (fkM_ 2) ∧ fz_ o ν ν' := by
  obtain ⟨ν1, a0, b0, c0⟩ := z_slot (a := 11) ht (by decide) hz
  obtain ⟨ν2, a1, b1, c1⟩ := z_word (a := 13) ht (by decide) (wl_k (by decide) (by decide)) b0
  obtain ⟨ν3, a2, b2, c2⟩ := z_num (k := 3) (m := 2) (c := 35) ht (by decide) (Or.inl ⟨rfl, rfl⟩) (fun h => by rw [nl_ (n := 2) (by decide) _ h]; rfl) b1
  exact ⟨ν3, by rw [a0, bd_some, a1, bd_some, a2, bd_some], b2, fz_t c0 (fz_t c1 (c2))⟩
theorem zq_3 {J : mu_T → Option mu_T} (ht : tl_ T L p0 o) (hz : pz_ T L p0 o ν []) : ∃ ν', bd_ (f_X12_slotOf ν 14) (fun m1 => J m1) = J ν' ∧ pz_ T L p0 o ν' (fkM_ 3) ∧ fz_ o ν ν' := by
  obtain ⟨ν1, a0, b0, c0⟩ := z_slot (a := 14) ht (by decide) hz
  exact ⟨ν1, by rw [a0, bd_some], b0, c0⟩
theorem zq_4 {J : mu_T → Option mu_T} (ht : tl_ T L p0 o) (hz : pz_ T L p0 o ν []) : ∃ ν', bd_ (f_X12_word ν 15) (fun m1 => bd_ (f_X12_letter m1 1) (fun m2 => bd_ (f_X12_word m2 13) (fun m3 => bd_ (f_X12_number m3 2 2) (fun m4 => J m4)))) = J ν' ∧ pz_ T L p0 o ν' (fkM_ 4) ∧ fz_ o ν ν' := by
  obtain ⟨ν1, a0, b0, c0⟩ := z_word (a := 15) ht (by decide) (wl_k (by decide) (by decide)) hz
  obtain ⟨ν2, a1, b1, c1⟩ := z_let ht (fun h => nl_ (n := 0) (by decide) _ h) b0
  obtain ⟨ν3, a2, b2, c2⟩ := z_word (a := 13) ht (by decide) (wl_k (by decide) (by decide)) b1
  obtain ⟨ν4, a3, b3, c3⟩ := z_num (k := 2) (m := 2) (c := 35) ht (by decide) (Or.inl ⟨rfl, rfl⟩) (fun h => by rw [nl_ (n := 1) (by decide) _ h]; rfl) b2
  exact ⟨ν4, by rw [a0, bd_some, a1, bd_some, a2, bd_some, a3, bd_some], b3, fz_t c0 (fz_t c1 (fz_t c2 (c3)))⟩
theorem zq_5 {J : mu_T → Option mu_T} (ht : tl_ T L p0 o) (hz : pz_ T L p0 o ν []) : ∃ ν', bd_ (f_X12_word ν 16) (fun m1 => bd_ (f_X12_letter m1 1) (fun m2 => J m2)) = J ν' ∧ pz_ T L p0 o ν' (fkM_ 5) ∧ fz_ o ν ν' := by
  obtain ⟨ν1, a0, b0, c0⟩ := z_word (a := 16) ht (by decide) (wl_k (by decide) (by decide)) hz
  obtain ⟨ν2, a1, b1, c1⟩ := z_let ht (fun h => nl_ (n := 0) (by decide) _ h) b0
  exact ⟨ν2, by rw [a0, bd_some, a1, bd_some], b1, fz_t c0 (c1)⟩
theorem zq_6 {J : mu_T → Option mu_T} (ht : tl_ T L p0 o) (hz : pz_ T L p0 o ν []) : ∃ ν', bd_ (f_X12_word ν 17) (fun m1 => bd_ (f_X12_number m1 1 2) (fun m2 => bd_ (f_X12_word m2 13) (fun m3 => bd_ (f_X12_number m3 2 2) (fun m4 => J m4)))) = J ν' ∧ pz_ T L p0 o ν' (fkM_ 6) ∧ fz_ o ν ν' := by
  obtain ⟨ν1, a0, b0, c0⟩ := z_word (a := 17) ht (by decide) (wl_k (by decide) (by decide)) hz
  obtain ⟨ν2, a1, b1, c1⟩ := z_num (k := 1) (m := 2) (c := 35) ht (by decide) (Or.inl ⟨rfl, rfl⟩) (fun h => by rw [nl_ (n := 0) (by decide) _ h]; rfl) b0
  obtain ⟨ν3, a2, b2, c2⟩ := z_word (a := 13) ht (by decide) (wl_k (by decide) (by decide)) b1
  obtain ⟨ν4, a3, b3, c3⟩ := z_num (k := 2) (m := 2) (c := 35) ht (by decide) (Or.inl ⟨rfl, rfl⟩) (fun h => by rw [nl_ (n := 1) (by decide) _ h]; rfl) b2
  exact ⟨ν4, by rw [a0, bd_some, a1, bd_some, a2, bd_some, a3, bd_some], b3, fz_t c0 (fz_t c1 (fz_t c2 (c3)))⟩
theorem zq_7 {J : mu_T → Option mu_T} (ht : tl_ T L p0 o) (hz : pz_ T L p0 o ν []) : ∃ ν', bd_ (f_X12_word ν 18) (fun m1 => J m1) = J ν' ∧ pz_ T L p0 o ν' (fkM_ 7) ∧ fz_ o ν ν' := by
  obtain ⟨ν1, a0, b0, c0⟩ := z_word (a := 18) ht (by decide) (wl_k (by decide) (by decide)) hz
  exact ⟨ν1, by rw [a0, bd_some], b0, c0⟩
theorem zq_8 {J : mu_T → Option mu_T} (ht : tl_ T L p0 o) (hz : pz_ T L p0 o ν []) : ∃ ν', bd_ (f_X12_word ν 19) (fun m1 => bd_ (f_X12_number m1 1 2) (fun m2 => J m2)) = J ν' ∧ pz_ T L p0 o ν' (fkM_ 8) ∧ fz_ o ν ν' := by
  obtain ⟨ν1, a0, b0, c0⟩ := z_word (a := 19) ht (by decide) (wl_k (by decide) (by decide)) hz
  obtain ⟨ν2, a1, b1, c1⟩ := z_num (k := 1) (m := 2) (c := 35) ht (by decide) (Or.inl ⟨rfl, rfl⟩) (fun h => by rw [nl_ (n := 0) (by decide) _ h]; rfl) b0
  exact ⟨ν2, by rw [a0, bd_some, a1, bd_some], b1, fz_t c0 (c1)⟩
theorem zq_9 {J : mu_T → Option mu_T} (ht : tl_ T L p0 o) (hz : pz_ T L p0 o ν []) : ∃ ν', bd_ (f_X12_word ν 20) (fun m1 => J m1) = J ν' ∧ pz_ T L p0 o ν' (fkM_ 9) ∧ fz_ o ν ν' := by
  obtain ⟨ν1, a0, b0, c0⟩ := z_word (a := 20) ht (by decide) (wl_k (by decide) (by decide)) hz
  exact ⟨ν1, by rw [a0, bd_some], b0, c0⟩
/-- an urn, with or without its sign -/
theorem zq_u {J : mu_T → Option mu_T} (ht : tl_ T L p0 o) (hz : pz_ T L p0 o ν []) : ∃ ν', bd_ (f_X12_word ν 10) (fun μ151 => nm_ (μ151 0 19) (fun v157 => jn_ (φ := Int → Option mu_T) (fun s0_177 => bd_ (f_X12_tells μ151 1 s0_177) (fun μ177 => nm_ (μ177 0 16) (fun v182 => nm_ (μ177 0 18) (fun v191 => rd_ μ177 6 80 ((4 * v191) + 1) (fun v197 => wf_ μ177 0 16 (v182 + v197) (fun μ199 => J μ199)))))) (fun J177 => jn_ (φ := Unit → Option mu_T) (fun _ => J177 0) (fun J176 => eq_ v157 0 (bd_ (f_X12_here μ151) (fun v164 => eq_ v164 33 (J177 1) (J176 ()))) (J176 ()))))) = J ν' ∧ fz_ o ν ν' ∧ (ν' 0 19 = if (mt_ T L (fkM_ 0) p0).1 = true then 0 else 1) ∧ ((mt_ T L (fkM_ 1) p0).1 = true → ν' 0 16 = (mt_ T L (fkM_ 1) p0).2.1 ∧ ν' 6 (4 * o + 1) = 1) ∧ ((mt_ T L (fkM_ 1) p0).1 = false → ν' 0 16 = (mt_ T L (fkM_ 1) p0).2.1 ∧ ν' 0 16 = (mt_ T L (fkM_ 0) p0).2.1 ∧ ν' 6 (4 * o + 1) = 0) ∧ ((mt_ T L (fkM_ 1) p0).1 = true → (mt_ T L (fkM_ 0) p0).1 = true ∧ (mt_ T L (fkM_ 0) p0).2.1 < L ∧ T (mt_ T L (fkM_ 0) p0).2.1 = 33) := by
  obtain ⟨ν1, a1, a2, a3⟩ := z_word (a := 10) ht (by decide) (wl_k (by decide) (by decide)) hz
  rw [List.nil_append, show fkM_ 10 = fkM_ 0 from rfl] at a2
  have ho := ht.2.2.2
  have hp := pz_p ht a2
  have e1 : fkM_ 1 = fkM_ 0 ++ [33] := rfl
  obtain ⟨q1, q2⟩ := mt_app (T := T) (L := L) (fkM_ 0) [33] p0
  rw [← e1] at q1 q2
  generalize hpp : (mt_ T L (fkM_ 0) p0).2.1 = p at hp q1 q2
  have h16 : ν1 0 16 = p := a2.2.1.trans hpp
  have eh := e_here a2.1.1 a2.1.2.1 h16 hp ht.1.2
  have key : ∀ v : Int, bd_ (f_X12_tells ν1 1 v) (fun μ177 => rd_ μ177 6 80 ((4 * μ177 0 18) + 1) (fun v197 => wf_ μ177 0 16 (μ177 0 16 + v197) (fun μ199 => J μ199))) = J (st_ (st_ ν1 6 (4 * o + 1) v) 0 16 (p + v)) := fun v => by
    rw [e_tells a2.1.2.2 ho (by decide), bd_some]
    have k16 : (st_ ν1 6 (4 * o + 1) v) 0 16 = p := by rw [st_n (by decide), h16]
    have k18 : (st_ ν1 6 (4 * o + 1) v) 0 18 = o := by rw [st_n (by decide), a2.1.2.2]
    rw [k16, k18, rd_e (by omega) (by omega), st_s, if_pos rfl, wf_e]
  have fr : ∀ v w : Int, fz_ o ν1 (st_ (st_ ν1 6 (4 * o + 1) v) 0 16 w) := fun v w => ⟨fun q q0 q1 => by rw [st_n q0, st_n q1], fun j j0 j1 => by rw [st_s, if_neg j0, st_n (by decide)], fun i hi => by rw [st_n (by decide), st_s, if_neg (by omega)]⟩
  rw [a1, bd_some]
  simp only [jn_e, nm_q]
  rw [key 0, key 1]
  have k6 : ∀ v w : Int, (st_ (st_ ν1 6 (4 * o + 1) v) 0 16 w) 6 (4 * o + 1) = v := fun v w => by rw [st_n (by decide), st_s, if_pos rfl]
  have k19 : ∀ v w : Int, (st_ (st_ ν1 6 (4 * o + 1) v) 0 16 w) 0 19 = ν1 0 19 := fun v w => by rw [st_s, if_neg (by decide), st_n (by decide)]
  have kp : ∀ v w : Int, (st_ (st_ ν1 6 (4 * o + 1) v) 0 16 w) 0 16 = w := fun v w => by rw [st_s, if_pos rfl]
  by_cases hok : (mt_ T L (fkM_ 0) p0).1 = true
  · have hw0 : ν1 0 19 = 0 := by
      rcases a2.2.2 with z | z
      · exact z.2.1
      · rw [z.1] at hok
        exact absurd hok (by decide)
    have q3 := q1 hok
    rw [eq_y hw0, eh, bd_some]
    have hc : ((33 : Int) ≠ 35 ∧ (33 : Int) ≠ 36 ∧ (33 : Int) ≠ 64) := by decide
    by_cases g : p < L ∧ T p = 33
    · have m1 : mt_ T L [33] p = (true, p + 1, []) := hd_y hc g
      rw [m1] at q3
      rw [if_pos g.1, eq_y g.2]
      refine ⟨_, rfl, fz_t a3 (fr _ _), by rw [k19, if_pos hok]; exact hw0, fun _ => ⟨by rw [kp, q3], k6 _ _⟩, fun h => ?_, fun _ => ⟨hok, g⟩⟩
      rw [q3] at h
      exact (Bool.false_ne_true h.symm).elim
    · have m1 : mt_ T L [33] p = (false, p, []) := hd_no hc g
      rw [m1] at q3
      have hT : rg_ (if p < L then T p else -11) := by
        by_cases h1 : p < L
        · have := ht.2.1 p hp.1 h1
          rw [if_pos h1]
          omega
        · rw [if_neg h1]
          decide
      rw [eq_n hT (by decide) (fun q => by
        by_cases h1 : p < L
        · rw [if_pos h1] at q
          exact g ⟨h1, q⟩
        · rw [if_neg h1] at q
          omega)]
      refine ⟨_, rfl, fz_t a3 (fr _ _), by rw [k19, if_pos hok]; exact hw0, fun h => ?_, fun _ => ⟨by rw [kp, q3]; exact Int.add_zero _, by rw [kp]; exact Int.add_zero _, k6 _ _⟩, fun h => ?_⟩
      · rw [q3] at h
        exact (Bool.false_ne_true h).elim
      · rw [q3] at h
        exact (Bool.false_ne_true h).elim
  · have hof := Bool.eq_false_iff.mpr hok
    have hw1 : ν1 0 19 = 1 := by
      rcases a2.2.2 with z | z
      · exact absurd z.1 hok
      · exact z.2
    obtain ⟨q4, q5⟩ := q2 hof
    rw [eq_n (by omega) (by decide) (by omega)]
    refine ⟨_, rfl, fz_t a3 (fr _ _), by rw [k19, if_neg hok]; exact hw1, fun h => ?_, fun _ => ⟨by rw [kp, q5]; exact Int.add_zero _, by rw [kp]; exact Int.add_zero _, k6 _ _⟩, fun h => ?_⟩
    · rw [q4] at h
      exact (Bool.false_ne_true h).elim
    · rw [q4] at h
      exact (Bool.false_ne_true h).elim
end RO
