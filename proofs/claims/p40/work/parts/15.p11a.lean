/-! what a part of a round does to the row -/
section GR
variable {s s' s'' : Int → Int} {c : Int} {T T1 T2 : Int → Prop}
/-- those of T that are white turn grey -/
def gr_ (T : Int → Prop) (s s' : Int → Int) : Prop := (∀ j, j ≠ 8 → (j < 41 ∨ 65 ≤ j) → (j < 233 ∨ 257 ≤ j) → s' j = s j) ∧ (∀ x, 0 ≤ x → x < 24 → s (41 + x) ≠ 0 → s' (41 + x) = s (41 + x)) ∧ (∀ x, 0 ≤ x → x < 24 → s (41 + x) = 0 → (T x → s' (41 + x) = 1) ∧ (¬ T x → s' (41 + x) = 0))
theorem gr_zz (h : ∀ x, ¬ T x) : gr_ T s s := ⟨fun _ _ _ _ => rfl, fun _ _ _ _ => rfl, fun x _ _ z => ⟨fun q => absurd q (h x), fun _ => z⟩⟩
theorem gr_t (h : gr_ T1 s s') (h2 : gr_ T2 s' s'') (hT : ∀ x, T x ↔ T1 x ∨ T2 x) : gr_ T s s'' := by
  refine ⟨fun j a b c => (h2.1 j a b c).trans (h.1 j a b c), fun x a b c => ?_, fun x a b z => ?_⟩
  · have q := h.2.1 x a b c
    rw [h2.2.1 x a b (by rw [q]; exact c), q]
  · have q := h.2.2 x a b z
    by_cases h1 : T1 x
    · have w := q.1 h1
      rw [h2.2.1 x a b (by rw [w]; decide), w]
      exact ⟨fun _ => rfl, fun n => absurd ((hT x).mpr (Or.inl h1)) n⟩
    · have w := h2.2.2 x a b (q.2 h1)
      refine ⟨fun n => w.1 ?_, fun n => w.2 (fun z => n ((hT x).mpr (Or.inr z)))⟩
      rcases (hT x).mp n with z | z
      · exact absurd z h1
      · exact z
theorem gr_ag (hG : iv_G s) (hc : c = -15 ∨ (0 ≤ c ∧ c < 24)) : gr_ (fun x => x = c) s (ag_ s c) := by
  refine ⟨fun j a b d => ag_o hG hc a b d, fun x a b d => by rw [ag_col hG hc a b, if_neg (fun q => d q.2)], fun x a b z => ?_⟩
  rw [ag_col hG hc a b]
  refine ⟨fun q => by rw [if_pos ⟨q, z⟩], fun q => by rw [if_neg (fun w => q w.1)]; exact z⟩
theorem gr_B (hp : s 0 = 1) (hH : iv_H s) (h : gr_ T s s') (hB : iv_B s) : iv_B s' := by
  obtain ⟨b0, b1, -, -, -⟩ := hB
  have e0 : s' 0 = s 0 := h.1 0 (by omega) (by omega) (by omega)
  have e137 : ∀ k, 0 ≤ k → k < 96 → s' (137 + k) = s (137 + k) := fun k a b => h.1 _ (by omega) (by omega) (by omega)
  refine ⟨fun k k0 k1 hk => ?_, fun _ k k0 k1 hk ht => ?_, fun q => absurd (e0.symm.trans q) (by omega), fun q => absurd (e0.symm.trans q) (by omega), fun q => absurd (e0.symm.trans q) (by omega)⟩
  · rw [h.1 (17 + k / 4) (by omega) (by omega) (by omega)] at hk
    rw [e137 k k0 k1]
    exact b0 k k0 k1 hk
  · rw [e137 k k0 k1] at ht ⊢
    have hr := ft_in (hH k k0 k1) ht
    by_cases hw : s (41 + k / 4) = 0
    · have q := h.2.2 (k / 4) (by omega) (by omega) hw
      exfalso
      by_cases hT : T (k / 4)
      · have := q.1 hT
        omega
      · have := q.2 hT
        omega
    · rw [h.2.1 (k / 4) (by omega) (by omega) hw] at hk
      have q := b1 hp k k0 k1 hk ht
      rw [h.2.1 _ hr.1 hr.2 q]
      exact q
/-- a grey urn turns black, and grey those to which it holds threads -/
def tg_ (s : Int → Int) (c x : Int) : Prop := ∃ k, 0 ≤ k ∧ k < 4 ∧ s (137 + (c * 4 + k)) = x
def bS (s s' : Int → Int) : Prop := s 0 = 1 ∧ s' 0 = 1 ∧ 0 < s 8 ∧ ∃ c, (0 ≤ c ∧ c < 24) ∧ s (41 + c) = 1 ∧ (∀ j, j ≠ 7 → j ≠ 8 → (j < 41 ∨ 65 ≤ j) → (j < 233 ∨ 257 ≤ j) → s' j = s j) ∧ s' (41 + c) = 2 ∧ ∀ x, 0 ≤ x → x < 24 → x ≠ c → (s (41 + x) ≠ 0 → s' (41 + x) = s (41 + x)) ∧ (s (41 + x) = 0 → (tg_ s c x → s' (41 + x) = 1) ∧ (¬ tg_ s c x → s' (41 + x) = 0))
/-- urns with rites become due -/
def td_ (s : Int → Int) (x : Int) : Prop := s (17 + x) = 1 ∧ s (41 + x) = 0 ∧ s (65 + x) = 1
def dS (s s' : Int → Int) : Prop := s 0 = 1 ∧ s' 0 = 1 ∧ s 8 = 0 ∧ (∀ j, j ≠ 7 → j ≠ 8 → j ≠ 9 → (j < 41 ∨ (89 ≤ j ∧ j < 233)) → s' j = s j) ∧ ∀ x, 0 ≤ x → x < 24 → (td_ s x → s' (41 + x) = 1 ∧ s' (65 + x) = 2) ∧ (¬ td_ s x → s' (41 + x) = s (41 + x) ∧ s' (65 + x) = s (65 + x))
/-- the sweep begins -/
def cS (s s' : Int → Int) : Prop := s 0 = 1 ∧ s 8 = 0 ∧ (∀ x, 0 ≤ x → x < 24 → ¬ td_ s x) ∧ s' 0 = 2 ∧ s' 1 = 0 ∧ ∀ j, 2 ≤ j → j ≠ 6 → j ≠ 7 → (j < 113 ∨ 137 ≤ j) → s' j = s j
/-- a cell is swept -/
def sS (s s' : Int → Int) : Prop := s 0 = 2 ∧ (∀ k, 0 ≤ k → k < 6 → s' (11 + k) = s (11 + k)) ∧ ((s 1 + 1 < 24 ∧ s' 0 = 2 ∧ s' 1 = s 1 + 1) ∨ (s 1 + 1 = 24 ∧ s' 0 = 0 ∧ s' 1 = 0)) ∧ (∀ x, 0 ≤ x → x < 24 → s' (41 + x) = if x = s 1 then 0 else s (41 + x)) ∧ ((s (17 + s 1) = 1 ∧ s (41 + s 1) = 0 ∧ s' 4 = s 4 + 1 ∧ (∀ x, 0 ≤ x → x < 24 → s' (17 + x) = if x = s 1 then 0 else s (17 + x)) ∧ (∀ x, 0 ≤ x → x < 24 → s' (65 + x) = if x = s 1 then 0 else s (65 + x)) ∧ ∀ k, 0 ≤ k → k < 96 → s' (137 + k) = if k / 4 = s 1 ∨ s (137 + k) = s 1 then -15 else s (137 + k)) ∨ (¬ (s (17 + s 1) = 1 ∧ s (41 + s 1) = 0) ∧ s' 4 = s 4 ∧ (∀ x, 0 ≤ x → x < 24 → s' (17 + x) = s (17 + x)) ∧ (∀ x, 0 ≤ x → x < 24 → s' (65 + x) = s (65 + x)) ∧ ∀ k, 0 ≤ k → k < 96 → s' (137 + k) = s (137 + k)))
def pt_ (s s' : Int → Int) : Prop := bS s s' ∨ dS s s' ∨ cS s s' ∨ sS s s'
theorem cn_none {p : Int → Bool} : ∀ n : Nat, cn_ p n = 0 → ∀ c : Int, 0 ≤ c → c < n → p c = false
  | 0, _, c, h0, h1 => by omega
  | n + 1, h, c, h0, h1 => by
    have q := cn_0 p n
    unfold cn_ at h
    by_cases hn : p (n : Int) = true
    · rw [if_pos hn] at h
      omega
    · rw [if_neg hn] at h
      by_cases hc : c = n
      · rw [hc]
        exact Bool.eq_false_iff.mpr hn
      · exact cn_none n (by omega) c h0 (by omega)
theorem g_none (hG : iv_G s) (h8 : s 8 = 0) (c0 : 0 ≤ c) (c1 : c < 24) : s (41 + c) ≠ 1 := by
  have q := cn_none 24 (hG.1.2.symm.trans h8) c c0 (by omega)
  exact of_decide_eq_false q
theorem pt_B {t : Int} (hI : iv_ t s) (h : pt_ s s') (hB : iv_B s) : iv_B s' := by
  obtain ⟨hT, hP, hH, hW, hM, hD, hG, hL, hC⟩ := hI
  obtain ⟨b0, b1, b2, b3, b4⟩ := hB
  have hr : ∀ k, 0 ≤ k → k < 96 → s (137 + k) ≠ -15 → 0 ≤ s (137 + k) ∧ s (137 + k) < 24 := fun k k0 k1 ht => ft_in (hH k k0 k1) ht
  rcases h with ⟨hp, hp', h8, c, hc, h1, hf, h2, hx⟩ | ⟨hp, hp', h8, hf, hx⟩ | ⟨hp, h8, hn, p0, p1, hf⟩ | ⟨hp, hm, hn, h41, hz⟩
  · have e137 : ∀ k, 0 ≤ k → k < 96 → s' (137 + k) = s (137 + k) := fun k a b => hf _ (by omega) (by omega) (by omega) (by omega)
    refine ⟨fun k k0 k1 hk => ?_, fun _ k k0 k1 hk ht => ?_, fun q => absurd (hp'.symm.trans q) (by decide), fun q => absurd (hp'.symm.trans q) (by decide), fun q => absurd (hp'.symm.trans q) (by decide)⟩
    · rw [hf (17 + k / 4) (by omega) (by omega) (by omega) (by omega)] at hk
      rw [e137 k k0 k1]
      exact b0 k k0 k1 hk
    · rw [e137 k k0 k1] at ht ⊢
      have q := hr k k0 k1 ht
      by_cases hcc : k / 4 = c
      · by_cases ht2 : s (137 + k) = c
        · rw [ht2, h2]
          decide
        · have w := hx _ q.1 q.2 ht2
          by_cases hw : s (41 + s (137 + k)) = 0
          · have z := (w.2 hw).1 ⟨k % 4, by omega, by omega, by rw [show c * 4 + k % 4 = k by omega]⟩
            omega
          · rw [w.1 hw]
            exact hw
      · have w := hx (k / 4) (by omega) (by omega) hcc
        have hk2 : s (41 + k / 4) = 2 := by
          by_cases hw : s (41 + k / 4) = 0
          · exfalso
            have z := w.2 hw
            by_cases ht3 : tg_ s c (k / 4)
            · have := z.1 ht3
              omega
            · have := z.2 ht3
              omega
          · rw [w.1 hw] at hk
            exact hk
        have z := b1 hp k k0 k1 hk2 ht
        by_cases ht2 : s (137 + k) = c
        · rw [ht2, h2]
          decide
        · rw [(hx _ q.1 q.2 ht2).1 z]
          exact z
  · have e137 : ∀ k, 0 ≤ k → k < 96 → s' (137 + k) = s (137 + k) := fun k a b => hf _ (by omega) (by omega) (by omega) (by omega)
    refine ⟨fun k k0 k1 hk => ?_, fun _ k k0 k1 hk ht => ?_, fun q => absurd (hp'.symm.trans q) (by decide), fun q => absurd (hp'.symm.trans q) (by decide), fun q => absurd (hp'.symm.trans q) (by decide)⟩
    · rw [hf (17 + k / 4) (by omega) (by omega) (by omega) (by omega)] at hk
      rw [e137 k k0 k1]
      exact b0 k k0 k1 hk
    · rw [e137 k k0 k1] at ht ⊢
      have q := hr k k0 k1 ht
      have w := hx (k / 4) (by omega) (by omega)
      have hk2 : s (41 + k / 4) = 2 := by
        by_cases hw : td_ s (k / 4)
        · have := (w.1 hw).1
          omega
        · rw [(w.2 hw).1] at hk
          exact hk
      have z := b1 hp k k0 k1 hk2 ht
      rw [((hx _ q.1 q.2).2 (fun n => z n.2.1)).1]
      exact z
  · have e137 : ∀ k, 0 ≤ k → k < 96 → s' (137 + k) = s (137 + k) := fun k a b => hf _ (by omega) (by omega) (by omega) (by omega)
    refine ⟨fun k k0 k1 hk => ?_, fun q => absurd (p0.symm.trans q) (by decide), fun _ k k0 k1 ht hk => ?_, fun q => absurd (p0.symm.trans q) (by decide), fun _ x x0 x1 q => by omega⟩
    · rw [hf (17 + k / 4) (by omega) (by omega) (by omega) (by omega)] at hk
      rw [e137 k k0 k1]
      exact b0 k k0 k1 hk
    · rw [e137 k k0 k1] at ht ⊢
      have q := hr k k0 k1 ht
      rw [hf (41 + k / 4) (by omega) (by omega) (by omega) (by omega), p1] at hk
      rw [hf (41 + s (137 + k)) (by omega) (by omega) (by omega) (by omega), p1]
      have w0 : s (41 + k / 4) ≠ 0 := fun z => hk ⟨z, by omega⟩
      have w1 := g_none hG h8 (c := k / 4) (by omega) (by omega)
      have w2 := (hT (k / 4) (by omega) (by omega)).2.1
      exact fun z => b1 hp k k0 k1 (by omega) ht z.1
  · have hc : 0 ≤ s 1 ∧ s 1 < 24 := hP.2.1
    have key : (∀ k, 0 ≤ k → k < 96 → s' (17 + k / 4) = 0 → s' (137 + k) = -15) ∧ (∀ k, 0 ≤ k → k < 96 → s' (137 + k) ≠ -15 → (k / 4 ≠ s 1 ∧ s' (137 + k) = s (137 + k) ∧ s (137 + k) ≠ s 1) ∨ (¬ (s (17 + s 1) = 1 ∧ s (41 + s 1) = 0) ∧ s' (137 + k) = s (137 + k))) := by
      rcases hz with ⟨z1, z2, z3, z4, z5, z6⟩ | ⟨z1, z2, z3, z4, z5⟩
      · refine ⟨fun k k0 k1 hk => ?_, fun k k0 k1 ht => ?_⟩
        · rw [z6 k k0 k1]
          rw [z4 (k / 4) (by omega) (by omega)] at hk
          by_cases h : k / 4 = s 1
          · rw [if_pos (Or.inl h)]
          · rw [if_neg h] at hk
            rw [b0 k k0 k1 hk]
            split <;> rfl
        · rw [z6 k k0 k1] at ht ⊢
          by_cases h : k / 4 = s 1 ∨ s (137 + k) = s 1
          · rw [if_pos h] at ht
            exact absurd rfl ht
          · exact Or.inl ⟨fun q => h (Or.inl q), if_neg h, fun q => h (Or.inr q)⟩
      · refine ⟨fun k k0 k1 hk => ?_, fun k k0 k1 ht => ?_⟩
        · rw [z5 k k0 k1]
          rw [z3 (k / 4) (by omega) (by omega)] at hk
          exact b0 k k0 k1 hk
        · exact Or.inr ⟨z1, z5 k k0 k1⟩
    refine ⟨key.1, fun q => by omega, fun q k k0 k1 ht hk => ?_, fun q x x0 x1 => ?_, fun q x x0 x1 hx => ?_⟩
    · have hn1 : s' 1 = s 1 + 1 := by
        rcases hn with n | n
        · exact n.2.2
        · omega
      have w := key.2 k k0 k1 ht
      have e : s' (137 + k) = s (137 + k) := by
        rcases w with w | w
        · exact w.2.1
        · exact w.2
      rw [e] at ht ⊢
      have r := hr k k0 k1 ht
      rw [h41 (k / 4) (by omega) (by omega), hn1] at hk
      rw [h41 _ r.1 r.2, hn1]
      intro z
      by_cases ht1 : s (137 + k) = s 1
      · omega
      · rw [if_neg ht1] at z
        refine b2 hp k k0 k1 ht (fun y => ?_) ⟨z.1, by omega⟩
        by_cases hk1 : k / 4 = s 1
        · rcases w with w | w
          · exact w.1 hk1
          · rw [hk1] at y
            have q17 := (hT (s 1) hc.1 hc.2).1
            have : s (17 + s 1) = 0 := by
              rcases q17 with q | q
              · exact q
              · exact absurd ⟨q, y.1⟩ w.1
            exact ht (b0 k k0 k1 (by rw [hk1]; exact this))
        · rw [if_neg hk1] at hk
          exact hk ⟨y.1, by omega⟩
    · have hn1 : s 1 + 1 = 24 := by
        rcases hn with n | n
        · omega
        · exact n.1
      rw [h41 x x0 x1]
      by_cases hx : x = s 1
      · rw [if_pos hx]
      · rw [if_neg hx]
        exact b4 hp x x0 x1 (by omega)
    · have hn1 : s' 1 = s 1 + 1 := by
        rcases hn with n | n
        · exact n.2.2
        · omega
      rw [h41 x x0 x1]
      by_cases hxx : x = s 1
      · rw [if_pos hxx]
      · rw [if_neg hxx]
        exact b4 hp x x0 x1 (by omega)
/-- some parts, one behind another -/
def ps_ (t : Int) (s s' : Int → Int) : Prop := ∀ Z : (Int → Int) → Prop, (∀ a b, iv_ t a → a 0 ≠ 0 → pt_ a b → Z a → Z b) → Z s → Z s'
theorem ps_r {t : Int} : ps_ t s s := fun _ _ h => h
theorem ps_c {t : Int} (hI : iv_ t s) (h0 : s 0 ≠ 0) (h : pt_ s s') (h2 : ps_ t s' s'') : ps_ t s s'' := fun Z hZ hs => h2 Z hZ (hZ s s' hI h0 h hs)
theorem ps_B {t : Int} (h : ps_ t s s') (hB : iv_B s) : iv_B s' := h iv_B (fun _ _ hI _ hp hB => pt_B hI hp hB) hB
end GR
