/-! sets of urns as numbers -/
def bt_ (x : Int) (i : Nat) : Bool := (iI x).toBitVec.getLsbD i
section BT
variable {a b x y c : Int} {i : Nat} {p q : Int → Bool}
theorem bt_or : bt_ (or_ a b) i = (bt_ a i || bt_ b i) := by
  unfold bt_ or_
  rw [iI_of, Int32.toBitVec_or, BitVec.getLsbD_or]
theorem bt_an : bt_ (an_ a b) i = (bt_ a i && bt_ b i) := by
  unfold bt_ an_
  rw [iI_of, Int32.toBitVec_and, BitVec.getLsbD_and]
theorem bt_xo : bt_ (xo_ a b) i = (bt_ a i ^^ bt_ b i) := by
  unfold bt_ xo_
  rw [iI_of, Int32.toBitVec_xor, BitVec.getLsbD_xor]
theorem bt_m : ∀ i, i < 32 → bt_ (-1) i = true := by decide +kernel
theorem bt_z : ∀ i, i < 32 → bt_ 0 i = false := by decide +kernel
theorem bt_s : ∀ c : Nat, c < 24 → ∀ i : Nat, i < 32 → bt_ (sl_ 1 (c : Int)) i = (decide (i < 24) && decide ((i : Int) = (c : Int))) := by decide +kernel
theorem bt_x (hx : rg_ x) (hy : rg_ y) (h : ∀ i, i < 32 → bt_ x i = bt_ y i) : x = y := by
  have e : iI x = iI y := Int32.toBitVec_inj.mp (BitVec.eq_of_getLsbD_eq (fun i hi => h i hi))
  rw [← iI_toInt hx, e, iI_toInt hy]
/-- x is the set p of cells -/
def mk_ (x : Int) (p : Int → Bool) : Prop := rg_ x ∧ ∀ i : Nat, i < 32 → bt_ x i = (decide (i < 24) && p i)
theorem mk_or (hx : mk_ x p) (hy : mk_ y q) : mk_ (or_ x y) (fun k => p k || q k) := ⟨iI_rg _, fun i hi => by
  rw [bt_or, hx.2 i hi, hy.2 i hi]
  exact (Bool.and_or_distrib_left _ _ _).symm⟩
theorem mk_an (hx : mk_ x p) (hy : mk_ y q) : mk_ (an_ x y) (fun k => p k && q k) := ⟨iI_rg _, fun i hi => by
  rw [bt_an, hx.2 i hi, hy.2 i hi]
  show (decide (i < 24) && p i && (decide (i < 24) && q i)) = (decide (i < 24) && (p i && q i))
  generalize decide (i < 24) = d
  generalize p i = u
  generalize q i = v
  cases d <;> cases u <;> cases v <;> rfl⟩
theorem mk_no (hx : mk_ x p) (hy : mk_ y q) : mk_ (an_ x (xo_ y (-1))) (fun k => p k && !q k) := ⟨iI_rg _, fun i hi => by
  rw [bt_an, bt_xo, bt_m i hi, hx.2 i hi, hy.2 i hi]
  show (decide (i < 24) && p i && ((decide (i < 24) && q i) ^^ true)) = (decide (i < 24) && (p i && !q i))
  generalize decide (i < 24) = d
  generalize p i = u
  generalize q i = v
  cases d <;> cases u <;> cases v <;> rfl⟩
theorem mk_0 : mk_ 0 (fun _ => false) := ⟨by decide, fun i hi => by
  rw [bt_z i hi, Bool.and_false]⟩
theorem mk_e (h : ∀ k, 0 ≤ k → k < 24 → p k = q k) (hx : mk_ x p) : mk_ x q := ⟨hx.1, fun i hi => by
  rw [hx.2 i hi]
  by_cases h2 : i < 24
  · rw [h i (by omega) (by omega)]
  · rw [decide_eq_false h2, Bool.false_and, Bool.false_and]⟩
theorem mk_eq (hx : mk_ x p) (hy : mk_ y q) (h : ∀ k, 0 ≤ k → k < 24 → p k = q k) : x = y := bt_x hx.1 hy.1 (fun i hi => by
  rw [(mk_e h hx).2 i hi, hy.2 i hi])
theorem mk_z (hx : mk_ x p) : x = 0 ↔ ∀ k, 0 ≤ k → k < 24 → p k = false := by
  constructor
  · intro e k k0 k1
    have q := hx.2 k.toNat (by omega)
    rw [e, bt_z _ (by omega), decide_eq_true (show k.toNat < 24 by omega), Bool.true_and, Int.toNat_of_nonneg k0] at q
    exact q.symm
  · intro h
    exact mk_eq hx mk_0 h
theorem mk_s (hc : 0 ≤ c ∧ c < 24) : mk_ (sl_ 1 c) (fun k => decide (k = c)) := ⟨iI_rg _, fun i hi => by
  have q := bt_s c.toNat (by omega) i hi
  rw [Int.toNat_of_nonneg hc.1] at q
  exact q⟩
-- 'some of them'
def ex_ (p : Int → Bool) : Nat → Bool
  | 0 => false
  | n + 1 => ex_ p n || p n
theorem ex_s {n : Nat} : ex_ p (n + 1) = (ex_ p n || p n) := rfl
theorem ex_i : ∀ {n : Nat}, ex_ p n = true ↔ ∃ b : Int, 0 ≤ b ∧ b < n ∧ p b = true
  | 0 => ⟨fun h => by
      unfold ex_ at h
      exact absurd h (by decide), fun ⟨b, h0, h1, _⟩ => by omega⟩
  | n + 1 => by
    rw [ex_s, Bool.or_eq_true, ex_i]
    constructor
    · rintro (⟨b, h0, h1, h2⟩ | h)
      · exact ⟨b, h0, by omega, h2⟩
      · exact ⟨n, by omega, by omega, h⟩
    · rintro ⟨b, h0, h1, h2⟩
      by_cases hb : b = n
      · rw [hb] at h2
        exact Or.inr h2
      · exact Or.inl ⟨b, h0, by omega, h2⟩
theorem ex_e : ∀ n : Nat, (∀ b : Int, 0 ≤ b → b < n → p b = q b) → ex_ p n = ex_ q n
  | 0, _ => rfl
  | n + 1, h => by
    rw [ex_s, ex_s, ex_e n (fun b h0 h1 => h b h0 (by omega)), h n (by omega) (by omega)]
theorem bo_i {u v : Bool} (h : u = true ↔ v = true) : u = v := Bool.eq_iff_iff.mpr h
/-- what can be come to over at most n threads -/
def rq_ (r : Int → Bool) (e : Int → Int → Bool) : Nat → Int → Bool
  | 0, c => r c
  | n + 1, c => rq_ r e n c || ex_ (fun b => rq_ r e n b && e b c) 24
end BT
section RC
variable {r : Int → Bool} {e : Int → Int → Bool}
theorem rc_s {n : Nat} {c : Int} : rq_ r e (n + 1) c = (rq_ r e n c || ex_ (fun b => rq_ r e n b && e b c) 24) := rfl
theorem rc_up {n : Nat} {c : Int} (h : rq_ r e n c = true) : rq_ r e (n + 1) c = true := by
  rw [rc_s, h, Bool.true_or]
theorem rc_le {n m : Nat} {c : Int} (hn : n ≤ m) (h : rq_ r e n c = true) : rq_ r e m c = true := by
  induction m with
  | zero =>
    have : n = 0 := by omega
    rw [← this]
    exact h
  | succ m ih =>
    by_cases hm : n = m + 1
    · rw [← hm]
      exact h
    · exact rc_up (ih (by omega))
theorem rc_st {n : Nat} {b c : Int} (hb : 0 ≤ b ∧ b < 24) (h : rq_ r e n b = true) (he : e b c = true) : rq_ r e (n + 1) c = true := by
  rw [rc_s, Bool.or_eq_true]
  exact Or.inr (ex_i.mpr ⟨b, hb.1, hb.2, by rw [h, he]; rfl⟩)
theorem rc_or {n : Nat} {c : Int} (h : rq_ r e (n + 1) c = true) : rq_ r e n c = true ∨ ∃ b, (0 ≤ b ∧ b < 24) ∧ rq_ r e n b = true ∧ e b c = true := by
  rw [rc_s, Bool.or_eq_true] at h
  rcases h with h | h
  · exact Or.inl h
  · obtain ⟨b, h0, h1, h2⟩ := ex_i.mp h
    rw [Bool.and_eq_true] at h2
    exact Or.inr ⟨b, ⟨h0, h1⟩, h2.1, h2.2⟩
theorem rc_fix {n : Nat} (h : ∀ c, 0 ≤ c → c < 24 → rq_ r e (n + 1) c = rq_ r e n c) : ∀ m, n ≤ m → ∀ c, 0 ≤ c → c < 24 → rq_ r e m c = rq_ r e n c := by
  intro m
  induction m with
  | zero =>
    intro hn c c0 c1
    rw [show n = 0 by omega]
  | succ m ih =>
    intro hn c c0 c1
    by_cases hm : n = m + 1
    · rw [hm]
    · have q := ih (by omega)
      rw [rc_s, q c c0 c1, ex_e 24 (fun b b0 b1 => by
        show (rq_ r e m b && e b c) = (rq_ r e n b && e b c)
        rw [q b b0 b1]), ← rc_s]
      exact h c c0 c1
theorem cn_le2 {p q : Int → Bool} : ∀ n : Nat, (∀ c : Int, 0 ≤ c → c < n → p c = true → q c = true) → cn_ p n ≤ cn_ q n
  | 0, _ => Int.le_refl _
  | n + 1, h => by
    have w := cn_le2 n (fun c c0 c1 => h c c0 (by omega))
    have w2 := h n (by omega) (by omega)
    rw [cn_s, cn_s]
    by_cases hp : p n = true
    · rw [if_pos hp, if_pos (w2 hp)]
      omega
    · rw [if_neg hp]
      split <;> omega
theorem cn_lt3 {p q : Int → Bool} {x : Int} (h2 : p x = false) (h3 : q x = true) (h1 : 0 ≤ x) : ∀ n : Nat, x < n → (∀ c : Int, 0 ≤ c → c < n → p c = true → q c = true) → cn_ p n + 1 ≤ cn_ q n
  | 0, h0, _ => by omega
  | n + 1, h0, h => by
    have w2 := h n (by omega) (by omega)
    rw [cn_s, cn_s]
    by_cases hx : x = n
    · have w := cn_le2 n (fun c c0 c1 => h c c0 (by omega))
      rw [← hx, if_neg (by rw [h2]; decide), if_pos h3]
      omega
    · have w := cn_lt3 h2 h3 h1 n (by omega) (fun c c0 c1 => h c c0 (by omega))
      by_cases hp : p n = true
      · rw [if_pos hp, if_pos (w2 hp)]
        omega
      · rw [if_neg hp]
        split <;> omega
theorem rc_grow : ∀ n : Nat, (∃ m, m < n ∧ ∀ c, 0 ≤ c → c < 24 → rq_ r e (m + 1) c = rq_ r e m c) ∨ cn_ (rq_ r e 0) 24 + n ≤ cn_ (rq_ r e n) 24
  | 0 => Or.inr (by omega)
  | n + 1 => by
    rcases rc_grow n with ⟨m, hm, h⟩ | h
    · exact Or.inl ⟨m, by omega, h⟩
    · by_cases hf : ∀ c, 0 ≤ c → c < 24 → rq_ r e (n + 1) c = rq_ r e n c
      · exact Or.inl ⟨n, by omega, hf⟩
      · right
        have hx : ∃ x, (0 ≤ x ∧ x < 24) ∧ rq_ r e (n + 1) x ≠ rq_ r e n x := by
          refine Classical.byContradiction (fun hn => hf (fun c c0 c1 => ?_))
          refine Classical.byContradiction (fun hc => hn ⟨c, ⟨c0, c1⟩, hc⟩)
        obtain ⟨x, x01, hx⟩ := hx
        have e0 : rq_ r e n x = false := by
          by_cases h1 : rq_ r e n x = true
          · exact absurd ((rc_up h1).trans h1.symm) hx
          · exact Bool.eq_false_iff.mpr h1
        have e1 : rq_ r e (n + 1) x = true := by
          by_cases h1 : rq_ r e (n + 1) x = true
          · exact h1
          · exact absurd ((Bool.eq_false_iff.mpr h1).trans e0.symm) hx
        have w := cn_lt3 e0 e1 x01.1 24 (by omega) (fun c c0 c1 hc => rc_up hc)
        omega
/-- over 23 threads one has come to all -/
theorem rc_ph {m : Nat} (hm : 23 ≤ m) {c : Int} (c0 : 0 ≤ c) (c1 : c < 24) : rq_ r e m c = rq_ r e 23 c := by
  have key : ∃ k, k < 24 ∧ ∀ c, 0 ≤ c → c < 24 → rq_ r e (k + 1) c = rq_ r e k c := by
    by_cases h0 : ∀ c, 0 ≤ c → c < 24 → rq_ r e 0 c = false
    · refine ⟨0, by decide, fun c c0 c1 => ?_⟩
      rw [rc_s, h0 c c0 c1, Bool.false_or]
      refine Bool.eq_false_iff.mpr (fun q => ?_)
      obtain ⟨b, b0, b1, b2⟩ := ex_i.mp q
      rw [h0 b b0 b1, Bool.false_and] at b2
      exact absurd b2 (by decide)
    · rcases rc_grow (r := r) (e := e) 24 with ⟨k, k1, k2⟩ | h
      · exact ⟨k, k1, k2⟩
      · exfalso
        have hx : ∃ x, (0 ≤ x ∧ x < 24) ∧ rq_ r e 0 x = true := by
          refine Classical.byContradiction (fun hn => h0 (fun c c0 c1 => ?_))
          exact Bool.eq_false_iff.mpr (fun hc => hn ⟨c, ⟨c0, c1⟩, hc⟩)
        obtain ⟨x, x01, x2⟩ := hx
        have w := cn_lt3 (p := fun _ => false) (q := rq_ r e 0) rfl x2 x01.1 24 (by omega) (fun c _ _ hc => absurd hc (by decide))
        have w0 := cn_0 (fun _ => false) 24
        have w1 := cn_le (rq_ r e 24) 24
        omega
  obtain ⟨k, k1, k2⟩ := key
  rw [rc_fix k2 m (by omega) c c0 c1, rc_fix k2 23 (by omega) c c0 c1]
theorem rc_24 {m : Nat} {c : Int} (c0 : 0 ≤ c) (c1 : c < 24) (h : rq_ r e m c = true) : rq_ r e 23 c = true := by
  by_cases hm : 23 ≤ m
  · rw [← rc_ph hm c0 c1]
    exact h
  · exact rc_le (by omega) h
end RC
