/-! orders as texts: what is wanted against what is there -/
section MT
/-- the value of what is wanted at a place, or -1 -/
def vt_ (T : Int → Int) (L c p : Int) : Int := if p < L then (if c = 35 ∨ c = 36 then (if 48 ≤ T p ∧ T p ≤ 57 then T p - 48 else -1) else if c = 64 then (if 97 ≤ T p ∧ T p ≤ 102 then T p - 97 else -1) else if T p = c then 0 else -1) else -1
def wd_ (T : Int → Int) (L c p : Int) : Int := if c = 35 ∧ 0 ≤ vt_ T L c (p + 1) then 2 else 1
def vl_ (T : Int → Int) (L c p : Int) : Int := if c = 35 ∧ 0 ≤ vt_ T L c (p + 1) then vt_ T L c p * 10 + vt_ T L c (p + 1) else vt_ T L c p
/-- a form against the text from p on: whether it fits, how far, its numbers -/
def mt_ (T : Int → Int) (L : Int) : List Int → Int → Bool × Int × List Int
  | [], p => (true, p, [])
  | c :: cs, p => if vt_ T L c p < 0 then (false, p, []) else ((mt_ T L cs (p + wd_ T L c p)).1, (mt_ T L cs (p + wd_ T L c p)).2.1, if c = 35 ∨ c = 36 ∨ c = 64 then vl_ T L c p :: (mt_ T L cs (p + wd_ T L c p)).2.2 else (mt_ T L cs (p + wd_ T L c p)).2.2)
variable {T : Int → Int} {L : Int}
theorem vt_b {c p : Int} : -1 ≤ vt_ T L c p ∧ vt_ T L c p ≤ 9 ∧ (c = 64 → vt_ T L c p ≤ 5) ∧ (0 ≤ vt_ T L c p → p < L) := by
  unfold vt_
  by_cases h : p < L
  · rw [if_pos h]
    by_cases h1 : c = 35 ∨ c = 36
    · rw [if_pos h1]
      by_cases h2 : 48 ≤ T p ∧ T p ≤ 57
      · rw [if_pos h2]
        omega
      · rw [if_neg h2]
        omega
    · rw [if_neg h1]
      by_cases h2 : c = 64
      · rw [if_pos h2]
        by_cases h3 : 97 ≤ T p ∧ T p ≤ 102
        · rw [if_pos h3]
          omega
        · rw [if_neg h3]
          omega
      · rw [if_neg h2]
        by_cases h3 : T p = c
        · rw [if_pos h3]
          omega
        · rw [if_neg h3]
          omega
  · rw [if_neg h]
    omega
theorem wd_b {c p : Int} : (wd_ T L c p = 1 ∨ wd_ T L c p = 2) ∧ (p < L → p + wd_ T L c p ≤ L) := by
  unfold wd_
  by_cases h : c = 35 ∧ 0 ≤ vt_ T L c (p + 1)
  · rw [if_pos h]
    have := (vt_b (T := T) (L := L) (c := c) (p := p + 1)).2.2.2 h.2
    omega
  · rw [if_neg h]
    omega
theorem vl_b {c p : Int} (h : 0 ≤ vt_ T L c p) : 0 ≤ vl_ T L c p ∧ vl_ T L c p ≤ 99 ∧ (c ≠ 35 → vl_ T L c p = vt_ T L c p) := by
  have q1 := vt_b (T := T) (L := L) (c := c) (p := p)
  have q2 := vt_b (T := T) (L := L) (c := c) (p := p + 1)
  unfold vl_
  by_cases h1 : c = 35 ∧ 0 ≤ vt_ T L c (p + 1)
  · rw [if_pos h1]
    omega
  · rw [if_neg h1]
    omega
theorem mt_n {p : Int} : mt_ T L [] p = (true, p, []) := rfl
theorem mt_f {c p : Int} {cs : List Int} (h : vt_ T L c p < 0) : mt_ T L (c :: cs) p = (false, p, []) := if_pos h
theorem mt_t {c p : Int} {cs : List Int} (h : ¬ vt_ T L c p < 0) : mt_ T L (c :: cs) p = ((mt_ T L cs (p + wd_ T L c p)).1, (mt_ T L cs (p + wd_ T L c p)).2.1, if c = 35 ∨ c = 36 ∨ c = 64 then vl_ T L c p :: (mt_ T L cs (p + wd_ T L c p)).2.2 else (mt_ T L cs (p + wd_ T L c p)).2.2) := if_neg h
theorem mt_b : ∀ (l : List Int) (p : Int), p ≤ (mt_ T L l p).2.1 ∧ (p ≤ L → (mt_ T L l p).2.1 ≤ L) ∧ ((mt_ T L l p).1 = true → p + l.length ≤ (mt_ T L l p).2.1)
  | [], p => ⟨Int.le_refl _, fun h => h, fun _ => by
      show p + (0 : Nat) ≤ p
      omega⟩
  | c :: cs, p => by
    by_cases h : vt_ T L c p < 0
    · rw [mt_f h]
      exact ⟨Int.le_refl _, fun h => h, fun q => (Bool.false_ne_true q).elim⟩
    · rw [mt_t h]
      obtain ⟨q1, q2, q3⟩ := mt_b cs (p + wd_ T L c p)
      have w := wd_b (T := T) (L := L) (c := c) (p := p)
      have v := (vt_b (T := T) (L := L) (c := c) (p := p)).2.2.2 (by omega)
      refine ⟨?_, fun _ => q2 (w.2 v), fun z => ?_⟩
      · show p ≤ (mt_ T L cs (p + wd_ T L c p)).2.1
        omega
      · have q := q3 z
        show p + ((cs.length + 1 : Nat) : Int) ≤ (mt_ T L cs (p + wd_ T L c p)).2.1
        omega
theorem mt_v : ∀ (l : List Int) (p : Int), ∀ v ∈ (mt_ T L l p).2.2, 0 ≤ v ∧ v ≤ 99
  | [], p => fun v hv => absurd hv (List.not_mem_nil)
  | c :: cs, p => by
    by_cases h : vt_ T L c p < 0
    · rw [mt_f h]
      exact fun v hv => absurd hv (List.not_mem_nil)
    · rw [mt_t h]
      have q := mt_v cs (p + wd_ T L c p)
      have w := vl_b (T := T) (L := L) (c := c) (p := p) (by omega)
      intro v hv
      by_cases hc : c = 35 ∨ c = 36 ∨ c = 64
      · have hv2 : v ∈ vl_ T L c p :: (mt_ T L cs (p + wd_ T L c p)).2.2 := by
          have e : (if c = 35 ∨ c = 36 ∨ c = 64 then vl_ T L c p :: (mt_ T L cs (p + wd_ T L c p)).2.2 else (mt_ T L cs (p + wd_ T L c p)).2.2) = vl_ T L c p :: (mt_ T L cs (p + wd_ T L c p)).2.2 := if_pos hc
          rw [← e]
          exact hv
        rcases List.mem_cons.mp hv2 with z | z
        · rw [z]
          exact ⟨w.1, w.2.1⟩
        · exact q v z
      · have hv2 : v ∈ (mt_ T L cs (p + wd_ T L c p)).2.2 := by
          have e : (if c = 35 ∨ c = 36 ∨ c = 64 then vl_ T L c p :: (mt_ T L cs (p + wd_ T L c p)).2.2 else (mt_ T L cs (p + wd_ T L c p)).2.2) = (mt_ T L cs (p + wd_ T L c p)).2.2 := if_neg hc
          rw [← e]
          exact hv
        exact q v hv2
/-- a form behind another -/
theorem mt_app : ∀ (l l2 : List Int) (p : Int), ((mt_ T L l p).1 = true → mt_ T L (l ++ l2) p = ((mt_ T L l2 (mt_ T L l p).2.1).1, (mt_ T L l2 (mt_ T L l p).2.1).2.1, (mt_ T L l p).2.2 ++ (mt_ T L l2 (mt_ T L l p).2.1).2.2)) ∧ ((mt_ T L l p).1 = false → (mt_ T L (l ++ l2) p).1 = false ∧ (mt_ T L (l ++ l2) p).2.1 = (mt_ T L l p).2.1)
  | [], l2, p => ⟨fun _ => rfl, fun h => (Bool.false_ne_true h.symm).elim⟩
  | c :: cs, l2, p => by
    by_cases h : vt_ T L c p < 0
    · have e : mt_ T L (c :: cs ++ l2) p = (false, p, []) := mt_f h
      rw [mt_f h, e]
      exact ⟨fun q => (Bool.false_ne_true q).elim, fun _ => ⟨rfl, rfl⟩⟩
    · have e : mt_ T L (c :: cs ++ l2) p = _ := mt_t (cs := cs ++ l2) h
      obtain ⟨q1, q2⟩ := mt_app cs l2 (p + wd_ T L c p)
      rw [mt_t h, e]
      refine ⟨fun z => ?_, fun z => ?_⟩
      · rw [q1 z]
        by_cases hc : c = 35 ∨ c = 36 ∨ c = 64
        · simp only [if_pos hc]
          rfl
        · simp only [if_neg hc]
      · exact q2 z
end MT
