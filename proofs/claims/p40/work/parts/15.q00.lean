/-! what the object answers, told by the row that its heap tells -/
section QV
variable {t : Int} {μ ν : mu_T} {s : Int → Int}
def vu_ (s : Int → Int) (a b : Int) : Int := if ur9_ s a then (if b = 0 then s (41 + a) else if b = 1 then s (65 + a) else if b = 2 then hl_ s a else if b = 3 then hd_ s a else if b = 4 then s (113 + a) else if b = 5 then s (89 + a) else -12) else -11
theorem v_urnOf (hr : hr_ μ s) (hI : iv_ t s) {a b : Int} (ha : rg_ a) (hb : rg_ b) : f_X11_urnOf μ a b = some (vu_ s a b) := by
  obtain ⟨r1, r2, r3, r4, r5, r6, -⟩ := hr
  unfold f_X11_urnOf vu_
  rw [e_hasUrn hI.1 r4 ha, bd_some, tr_0]
  by_cases u : ur9_ s a
  · have a01 := u.1
    rw [if_pos u, if_pos u]
    by_cases b0 : b = 0
    · subst b0
      rw [t6_0, rd_e a01.1 (by omega), r4 a a01.1 a01.2, if_neg (by have := u.2; omega)]
      rfl
    by_cases b1 : b = 1
    · subst b1
      rw [t6_1, rd_e a01.1 (by omega), r3 a a01.1 a01.2]
      rfl
    by_cases b2 : b = 2
    · subst b2
      rw [t6_2, e_threadsFrom r1 (iv_g1 hI) a01, bd_some]
      rfl
    by_cases b3 : b = 3
    · subst b3
      rw [t6_3, e_holdersOf r1 (iv_g1 hI) r6 (iv_g6 hI) ha, bd_some]
      rfl
    by_cases b4 : b = 4
    · subst b4
      rw [t6_4, rd_e a01.1 (by omega), r2 a a01.1 a01.2]
      rfl
    by_cases b5 : b = 5
    · subst b5
      rw [t6_5, rd_e a01.1 (by omega), r5 a a01.1 a01.2 u.2]
      rfl
    rw [t6_d hb ⟨b0, b1, b2, b3, b4, b5⟩, if_neg b0, if_neg b1, if_neg b2, if_neg b3, if_neg b4, if_neg b5]
  · rw [if_neg u, if_neg u]
def vth9_ (s : Int → Int) (a b : Int) : Int := if ur9_ s a then s (137 + (a * 4 + b)) else -11
theorem v_threadOf (hr : hr_ μ s) (hI : iv_ t s) {a b : Int} (ha : rg_ a) (hb : 0 ≤ b ∧ b < 4) : f_X11_threadOf μ a b = some (vth9_ s a b) := by
  have hb2 : rg_ b := ⟨by omega, by omega⟩
  unfold f_X11_threadOf vth9_
  rw [e_hasUrn hI.1 hr.2.2.2.1 ha, bd_some, tr_0]
  by_cases u : ur9_ s a
  · rw [if_pos u, if_pos u, e_isSlot hb2, bd_some, tr_0, if_pos hb, e_target hr.1 ha hb2, bd_some, if_pos ⟨u.1, hb⟩]
  · rw [if_neg u, if_neg u]
theorem v_named (hr : hr_ μ s) {a : Int} (ha : 0 ≤ a ∧ a < 6) : f_X11_named μ a = some (s (11 + a)) := by
  unfold f_X11_named
  rw [e_isName ⟨by omega, by omega⟩, bd_some, tr_0, if_pos ha, rd_e ha.1 (by omega), hr.2.2.2.2.2.1 a ha.1 ha.2]
def vd_ (s : Int → Int) (a : Int) : Int := if 0 ≤ a ∧ a ≤ s 9 - 1 then s (257 + a) else -11
theorem v_due (hr : hr_ μ s) (hI : iv_ t s) {a : Int} (ha : rg_ a) : f_X11_due μ a = some (vd_ s a) := by
  have hle := iv_le hI
  have e10 := hr.2.2.2.2.2.2.2.2.1
  unfold f_X11_due f_X9_at_o10 vd_
  rw [nm_q, e10.1, lt_if ha (by decide), lt_if ha (by omega), lt_if ha (by decide)]
  by_cases v : 0 ≤ a ∧ a ≤ s 9 - 1
  · rw [if_neg (show ¬ a < 0 by omega), if_pos (show a < s 9 by omega), if_pos (show a < 24 by omega), if_pos v, rd_e v.1 (by omega), e10.2 a v.1 (by omega), bd_some]
  · rw [if_neg v]
    by_cases v0 : a < 0
    · rw [if_pos v0, bd_some]
    · rw [if_neg v0, if_neg (by omega), bd_some]
def vg_ (s : Int → Int) (a : Int) : Int := if 0 ≤ a ∧ a ≤ s 8 - 1 then s (233 + a) else -11
theorem v_grey (hr : hr_ μ s) (hI : iv_ t s) {a : Int} (ha : rg_ a) : f_X11_grey μ a = some (vg_ s a) := by
  have hle := iv_le hI
  have e10 := hr.2.2.2.2.2.2.2.1
  unfold f_X11_grey f_X9_at vg_
  rw [nm_q, e10.1, lt_if ha (by decide), lt_if ha (by omega), lt_if ha (by decide)]
  by_cases v : 0 ≤ a ∧ a ≤ s 8 - 1
  · rw [if_neg (show ¬ a < 0 by omega), if_pos (show a < s 8 by omega), if_pos (show a < 24 by omega), if_pos v, rd_e v.1 (by omega), e10.2 a v.1 (by omega), bd_some]
  · rw [if_neg v]
    by_cases v0 : a < 0
    · rw [if_pos v0, bd_some]
    · rw [if_neg v0, if_neg (by omega), bd_some]
def vf_9 (s : Int → Int) (a : Int) : Int := if 0 ≤ a ∧ a ≤ s 10 - 1 then s (281 + a) else -11
theorem v_freed (hr : hr_ μ s) (hI : iv_ t s) (ht : t ≤ 1000000) {a : Int} (ha : rg_ a) : f_X11_freed μ a = some (vf_9 s a) := by
  have hle := iv_le hI
  have r7 := hr.2.2.2.2.2.2.1
  have r16 : μ 0 13 = s 4 := hr.2.2.2.2.2.2.2.2.2.2.2.2.2.1
  obtain ⟨l0, l1, l2⟩ := hI.2.2.2.2.2.2.2.1
  have h4b : s 4 ≤ 1000000 := by
    have q := hI.2.2.2.2.2.2.2.2
    have w := cn_0 (fun c => decide (s (17 + c) = 1)) 24
    have q1 := q.1
    have q2 := q.2
    omega
  unfold f_X11_freed f_X2_freedLate vf_9
  rw [nm_q, r16, lt_if ha (by decide), lt_if ha (by decide), lt_if ha (by omega)]
  by_cases v : 0 ≤ a ∧ a ≤ s 10 - 1
  · rw [if_neg (show ¬ a < 0 by omega), if_pos (show a < 12 by omega), if_pos (show a < s 4 by omega), if_pos v, nm_q, rm_e ⟨by omega, by omega⟩ (by decide) (by omega) (by decide), rd_e (by omega) (by omega), bd_some, r7 a v.1 (by omega)]
  · rw [if_neg v]
    by_cases v0 : a < 0
    · rw [if_pos v0, bd_some]
    · rw [if_neg v0]
      by_cases v1 : a < 12
      · rw [if_pos v1, if_neg (by omega), bd_some]
      · rw [if_neg v1, bd_some]
/-- the accounts that the row tells -/
def va_9 (s : Int → Int) (a : Int) : Int := if a = 0 then s 2 else if a = 1 then s 0 else if a = 2 then s 1 else if a = 3 then nu_ s else if a = 4 then co_ s 0 else if a = 5 then co_ s 1 else if a = 6 then co_ s 2 else if a = 7 then s 3 else if a = 8 then s 4 else if a = 9 then s 9 else if a = 10 then s 5 else if a = 11 then s 6 else if a = 12 then un_ s else s 7
theorem v_account (hr : hr_ μ s) (hI : iv_ t s) {a : Int} (ha : 0 ≤ a ∧ a < 14) : f_X11_account μ a = some (va_9 s a) := by
  obtain ⟨r1, r2, r3, r4, r5, r6, r7, ⟨r8, r9⟩, ⟨r10, r11⟩, r12, r13, r14, r15, r16, r17, r18, r19⟩ := hr
  unfold f_X11_account
  rcases (show a = 0 ∨ a = 1 ∨ a = 2 ∨ a = 3 ∨ a = 4 ∨ a = 5 ∨ a = 6 ∨ a = 7 ∨ a = 8 ∨ a = 9 ∨ a = 10 ∨ a = 11 ∨ a = 12 ∨ a = 13 by omega) with rfl | rfl | rfl | rfl | rfl | rfl | rfl | rfl | rfl | rfl | rfl | rfl | rfl | rfl
  · rw [t16_0, nm_q, r14]; rfl
  · rw [t16_1, nm_q, r12]; rfl
  · rw [t16_2, nm_q, r13]; rfl
  · rw [t16_3, e_urns hI.1 r4, bd_some]; rfl
  · rw [t16_4, e_colours hI.1 r4 (by decide), bd_some]; rfl
  · rw [t16_5, e_colours hI.1 r4 (by decide), bd_some]; rfl
  · rw [t16_6, e_colours hI.1 r4 (by decide), bd_some]; rfl
  · rw [t16_7, nm_q, r15]; rfl
  · rw [t16_8, nm_q, r16]; rfl
  · rw [t16_9, nm_q, r10]; rfl
  · rw [t16_10, nm_q, r17]; rfl
  · rw [t16_11, nm_q, r18]; rfl
  · rw [t16_12, e_namesInUse r6 (iv_g6 hI), bd_some]; rfl
  · rw [t16_13, nm_q, r19]; rfl
theorem v_acc14 {T : Nat} (hR : RR_ T μ ν) : f_X11_account μ 14 = some (ν 0 10) := by
  unfold f_X11_account
  rw [t16_14]
  show (some (μ 141 3) : Option Int) = _
  rw [hR.2.2.2.2.1.2.1]
theorem v_acc15 {T : Nat} (hR : RR_ T μ ν) : f_X11_account μ 15 = some (ν 0 4) := by
  unfold f_X11_account
  rw [t16_15, nm_q, hR.2.2.1.2.1]
/-! the law's sum -/
def wr9_ (a : Int) : Int := (iI a).toInt
theorem il_e {α : Type} (a : Int) (f : Int → Option α) : il_ a f = f (wr9_ a) := rfl
def fo_ (g : Int → Int) : Nat → Int → Int → Int
  | 0, _, v => v
  | n + 1, i, v => fo_ g n (i + 1) (31 * v + g i)
theorem l_s4 (hr : hr_ μ s) (hI : iv_ t s) {J : Int → Option Int} : ∀ (n i : Nat), i + n = 14 → ∀ f : Nat, n < f → ∀ v : Int, f_L_sum_o132_L4 J μ f v i = J (fo_ (fun a => wr9_ (va_9 s a)) n i v) := by
  intro n
  induction n with
  | zero =>
    intro i hi f hf v
    obtain ⟨f', rfl⟩ : ∃ f', f = f' + 1 := ⟨f - 1, by omega⟩
    rw [f_L_sum_o132_L4, lt_n (by omega) (by decide) (by omega)]
    rfl
  | succ n ih =>
    intro i hi f hf v
    obtain ⟨f', rfl⟩ : ∃ f', f = f' + 1 := ⟨f - 1, by omega⟩
    rw [f_L_sum_o132_L4, lt_y (by omega) (by decide) (by omega), v_account hr hI (by omega), bd_some]
    exact ih (i + 1) (by omega) f' (by omega) _
theorem l_s141 (hr : hr_ μ s) : ∀ (n i : Nat), i + n = 6 → ∀ f : Nat, n < f → ∀ v : Int, f_L_sum_o132_L141 μ f v i = some (fo_ (fun a => wr9_ (s (11 + a))) n i v) := by
  intro n
  induction n with
  | zero =>
    intro i hi f hf v
    obtain ⟨f', rfl⟩ : ∃ f', f = f' + 1 := ⟨f - 1, by omega⟩
    rw [f_L_sum_o132_L141, lt_n (by omega) (by decide) (by omega)]
    rfl
  | succ n ih =>
    intro i hi f hf v
    obtain ⟨f', rfl⟩ : ∃ f', f = f' + 1 := ⟨f - 1, by omega⟩
    rw [f_L_sum_o132_L141, lt_y (by omega) (by decide) (by omega), v_named hr (by omega), bd_some]
    exact ih (i + 1) (by omega) f' (by omega) _
theorem l_s106 (hr : hr_ μ s) (hI : iv_ t s) {J : Int → Option Int} {c : Int} (hc : 0 ≤ c ∧ c < 24) : ∀ (n i : Nat), i + n = 4 → ∀ f : Nat, n < f → ∀ v : Int, f_L_sum_o132_L106 J c μ f v i = J (fo_ (fun a => wr9_ (vth9_ s c a)) n i v) := by
  intro n
  induction n with
  | zero =>
    intro i hi f hf v
    obtain ⟨f', rfl⟩ : ∃ f', f = f' + 1 := ⟨f - 1, by omega⟩
    rw [f_L_sum_o132_L106, lt_n (by omega) (by decide) (by omega)]
    rfl
  | succ n ih =>
    intro i hi f hf v
    obtain ⟨f', rfl⟩ : ∃ f', f = f' + 1 := ⟨f - 1, by omega⟩
    rw [f_L_sum_o132_L106, lt_y (by omega) (by decide) (by omega), v_threadOf hr hI (by omega) (by omega), bd_some]
    exact ih (i + 1) (by omega) f' (by omega) _
theorem l_s75 (hr : hr_ μ s) (hI : iv_ t s) {J : Int → Option Int} {c : Int} (hc : 0 ≤ c ∧ c < 24) : ∀ (n i : Nat), i + n = 6 → ∀ f : Nat, n < f → ∀ v : Int, f_L_sum_o132_L75 J c μ f v i = J (fo_ (fun a => wr9_ (vu_ s c a)) n i v) := by
  intro n
  induction n with
  | zero =>
    intro i hi f hf v
    obtain ⟨f', rfl⟩ : ∃ f', f = f' + 1 := ⟨f - 1, by omega⟩
    rw [f_L_sum_o132_L75, lt_n (by omega) (by decide) (by omega)]
    rfl
  | succ n ih =>
    intro i hi f hf v
    obtain ⟨f', rfl⟩ : ∃ f', f = f' + 1 := ⟨f - 1, by omega⟩
    rw [f_L_sum_o132_L75, lt_y (by omega) (by decide) (by omega), v_urnOf hr hI (by omega) (by omega), bd_some]
    exact ih (i + 1) (by omega) f' (by omega) _
def fc_9 (s : Int → Int) (c v : Int) : Int := fo_ (fun a => wr9_ (vth9_ s c a)) 4 0 (fo_ (fun a => wr9_ (vu_ s c a)) 6 0 ((((31 * v) + (7 * wr9_ (vd_ s c))) + (5 * wr9_ (vg_ s c))) + wr9_ (vf_9 s c)))
def fo_c (s : Int → Int) : Nat → Int → Int → Int
  | 0, _, v => v
  | n + 1, i, v => fo_c s n (i + 1) (fc_9 s i v)
theorem l_s31 (hr : hr_ μ s) (hI : iv_ t s) (ht : t ≤ 1000000) {J : Int → Option Int} : ∀ (n i : Nat), i + n = 24 → ∀ f : Nat, n < f → ∀ v : Int, f_L_sum_o132_L31 J μ f v i = J (fo_c s n i v) := by
  obtain ⟨F, hF, hF2⟩ := F_big
  intro n
  induction n with
  | zero =>
    intro i hi f hf v
    obtain ⟨f', rfl⟩ : ∃ f', f = f' + 1 := ⟨f - 1, by omega⟩
    rw [f_L_sum_o132_L31, lt_n (by omega) (by decide) (by omega)]
    rfl
  | succ n ih =>
    intro i hi f hf v
    obtain ⟨f', rfl⟩ : ∃ f', f = f' + 1 := ⟨f - 1, by omega⟩
    rw [f_L_sum_o132_L31, ← hF2, lt_y (by omega) (by decide) (by omega), v_due hr hI (by omega), bd_some, il_e, v_grey hr hI (by omega), bd_some, il_e, v_freed hr hI ht (by omega), bd_some, il_e, nm_q]
    simp only [jn_e]
    refine (l_s75 hr hI (c := (i : Int)) (by omega) 6 0 (by decide) F (by omega) _).trans ?_
    refine (l_s106 hr hI (c := (i : Int)) (by omega) 4 0 (by decide) F (by omega) _).trans ?_
    exact ih (i + 1) (by omega) f' (by omega) _
/-- the sum, told by the row -/
def sm9_ (s : Int → Int) : Int := fo_ (fun a => wr9_ (s (11 + a))) 6 0 (fo_c s 24 0 (fo_ (fun a => wr9_ (va_9 s a)) 14 0 0))
theorem v_sum (hr : hr_ μ s) (hI : iv_ t s) (ht : t ≤ 1000000) : f_L_sum_o132 μ = some (sm9_ s) := by
  obtain ⟨F, hF, hF2⟩ := F_big
  unfold f_L_sum_o132
  rw [← hF2]
  simp only [jn_e]
  refine (l_s4 hr hI 14 0 (by decide) F (by omega) _).trans ?_
  refine (l_s31 hr hI ht 24 0 (by decide) F (by omega) _).trans ?_
  exact l_s141 hr 6 0 (by decide) F (by omega) _
end QV
