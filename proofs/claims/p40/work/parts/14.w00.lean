/-! the law from its entry (written by wip/gen/wgen.py) -/
def mX0_ : mu_T := fun k => if k < 132 then (match k % 12 with
  | 1 => fr_ 96 (-15)
  | 2 => fr_ 24 (-15)
  | 4 => fr_ 24 (-1)
  | 6 => fr_ 6 (-15)
  | _ => fun _ => 0) else match k with
  | 133 => fun _ => -15
  | 142 => br_ 16
  | 143 => fun _ => -1
  | 150 => br_ 16
  | _ => fun _ => 0
def aX0_ (q : Nat) (U : Nat → Nat) (V : Nat → Nat → Nat) (O : Nat → Nat) : Nat → Nat := fun k => if k < 12 then U k else if k < 132 then V (k / 12) (k % 12) else if k = 132 then q else O (k - 132)
def sX0_ (k : Nat) : Nat := if k < 12 then k + 1 else if k < 120 then k + 20 else if k < 132 then k - 100 else if k = 132 then 0 else if k < 140 then k - 120 else k
theorem wv_wl {G : gp_} {X : ct_} {N : Nat} {ad : Nat → Nat} {ce : Nat → (Int → Int) → va_E} {μ : mu_T} {k n pc : Nat} {lv : List (Nat × Value)} {st : List Value} (h : wx_ G X N ad ce μ k n pc lv st) : wv_ G X (wl_ N ad ce μ) k n pc lv st := by
  obtain ⟨p, l, e9, R, s, m, args, below, meth, c, Q, A, nL⟩ := X
  intro H locs ls hP hD hS hl
  rw [wl_L] at hP hD
  exact h H locs ls hP hD hS hl
theorem wv_map {G : gp_} {X : ct_} {w1 w2 : va_W} {k n pc : Nat} {lv : List (Nat × Value)} {st : List Value} (hP : ∀ H, va_P G.1 vwCl w1 H → va_P G.1 vwCl w2 H) (hD : ∀ A, va_D A w1 → va_D A w2) (h : wv_ G X w2 k n pc lv st) : wv_ G X w1 k n pc lv st := by
  obtain ⟨p, l, e9, R, s, m, args, below, meth, c, Q, A, nL⟩ := X
  intro H locs ls hP0 hD0 hS hl
  rw [wl_L] at hP0 hD0
  exact h H locs ls (by rw [wl_L]; exact hP H hP0) (by rw [wl_L]; exact hD A hD0) hS hl
set_option maxRecDepth 100000 in
theorem sX0_inj : ∀ i j : Nat, i < 151 → j < 151 → sX0_ i = sX0_ j → i = j := fun i j hi hj h => by
  unfold sX0_ at h
  repeat' split at h
  all_goals omega
theorem hL_len {G : gp_} {V : Nat → Nat → Nat} : ∀ n : Nat, (hL_ G V n).length = 12 * (n + 1)
  | 0 => rfl
  | n + 1 => by
    unfold hL_
    rw [List.length_append, hL_len n]
    show 12 * (n + 1) + 12 = _
    omega
theorem hL_at {G : gp_} {V : Nat → Nat → Nat} : ∀ (n h j : Nat), 1 ≤ h → h ≤ n → j < 12 → (hL_ G V n)[12 * h + j]? = (hX2_ G (V h 0) (V h))[j]?
  | 0, h, j, h1, h2, _ => by omega
  | n + 1, h, j, h1, h2, hj => by
    unfold hL_
    by_cases hh : h = n + 1
    · subst hh
      rw [List.getElem?_append_right (by rw [hL_len]; omega), hL_len]
      congr 1
      omega
    · rw [List.getElem?_append_left (by rw [hL_len]; omega)]
      exact hL_at n h j h1 (by omega) hj
theorem hL_at0 {G : gp_} {V : Nat → Nat → Nat} : ∀ (n j : Nat), j < 12 → (hL_ G V n)[j]? = (hX2_ G (V 10 0) (V 10))[j]?
  | 0, j, _ => rfl
  | n + 1, j, hj => by
    unfold hL_
    rw [List.getElem?_append_left (by rw [hL_len]; omega)]
    exact hL_at0 n j hj
def hA_ (G : gp_) (q : Nat) (U : Nat → Nat) (V : Nat → Nat → Nat) (O : Nat → Nat) : va_W := [(q, .inr (11, [.ref (U 0), .ref (O 1), .ref (O 2), .ref (O 3), .ref (O 4), .ref (O 6), .ref (O 8), .ref (O 16)]))] ++ (((((hX2_ G (U 0) U ++ [((O 1), .inr (8, [.int (iI (-15)), .int (iI (-15))]))]) ++ [((O 2), .inr (2, [.ref (U 0), .ref (O 1)]))]) ++ [((O 3), .inr (10, [.ref (U 0), .ref (O 1)]))]) ++ [((O 4), .inr (7, [.ref (U 0), .ref (O 5)])), ((O 5), .inl (G.1.1 100, 24, .inl (fun _ => iI 0)))]) ++ [((O 6), .inr (4, [.ref (U 0), .ref (O 7), .ref (V 10 0), .int (iI 0), .int (iI 0), .int (iI 0)])), ((O 7), .inl (G.1.1 102, 9, .inr (.inr (.inr (.inr (fun j => some (V (j + 1) 0)))))))])
def hB_ (G : gp_) (O : Nat → Nat) : va_W := [((O 8), .inr (6, [.ref (O 9), .ref (O 11), .ref (O 12), .ref (O 13), .ref (O 14), .int (iI 0), .ref (O 15), .int (iI 0)])), ((O 9), .inr (1, [.ref (O 10), .int (iI 0), .int (iI 0), .int (iI 0)])), ((O 10), .inl (G.1.1 101, (br_ 16 (-1)).toNat, .inl (fun j => iI (br_ 16 (j : Nat))))), ((O 11), .inl (G.1.1 103, 60, .inr (.inr (.inr (.inr (fun _ => none)))))), ((O 12), .inl (G.1.1 100, 60, .inl (fun _ => iI 0))), ((O 13), .inl (G.1.1 100, 60, .inl (fun _ => iI 0))), ((O 14), .inl (G.1.1 100, 60, .inl (fun _ => iI 0))), ((O 15), .inl (G.1.1 100, 3, .inl (fun _ => iI 0)))] ++ [((O 16), .inr (5, [.ref (O 17)])), ((O 17), .inr (1, [.ref (O 18), .int (iI 0), .int (iI 0), .int (iI 0)])), ((O 18), .inl (G.1.1 101, (br_ 16 (-1)).toNat, .inl (fun j => iI (br_ 16 (j : Nat)))))]
theorem hX11_sp {G : gp_} {q : Nat} {U : Nat → Nat} {V : Nat → Nat → Nat} {O : Nat → Nat} : hX11_ G q U V O = (hA_ G q U V O ++ hL_ G V 9) ++ hB_ G O := by
  unfold hX11_ hX3_ hA_ hB_
  simp only [List.append_assoc]
theorem hX11_L {G : gp_} {q : Nat} {U : Nat → Nat} {V : Nat → Nat → Nat} {O : Nat → Nat} {m : Nat} (hm : m < 120) : (hX11_ G q U V O)[20 + m]? = (hL_ G V 9)[m]? := by
  have hA : (hA_ G q U V O).length = 20 := rfl
  rw [hX11_sp, List.getElem?_append_left (by rw [List.length_append, hL_len, hA]; omega), List.getElem?_append_right (by rw [hA]; omega), hA, Nat.add_sub_cancel_left]
theorem hX11_R {G : gp_} {q : Nat} {U : Nat → Nat} {V : Nat → Nat → Nat} {O : Nat → Nat} (m : Nat) : (hX11_ G q U V O)[140 + m]? = (hB_ G O)[m]? := by
  have hA : (hA_ G q U V O).length = 20 := rfl
  have hl : (hA_ G q U V O ++ hL_ G V 9).length = 140 := by rw [List.length_append, hL_len, hA]
  rw [hX11_sp, List.getElem?_append_right (by rw [hl]; omega), hl, Nat.add_sub_cancel_left]
theorem hX11_A {G : gp_} {q : Nat} {U : Nat → Nat} {V : Nat → Nat → Nat} {O : Nat → Nat} {m : Nat} (hm : m < 20) : (hX11_ G q U V O)[m]? = (hA_ G q U V O)[m]? := by
  have hA : (hA_ G q U V O).length = 20 := rfl
  rw [hX11_sp, List.getElem?_append_left (by rw [List.length_append, hA]; omega), List.getElem?_append_left (by rw [hA]; exact hm)]
theorem aX_h {q : Nat} {U : Nat → Nat} {V : Nat → Nat → Nat} {O : Nat → Nat} {i c : Nat} (hi : 1 ≤ i ∧ i < 11) (hc : c < 12) : aX0_ q U V O (12 * i + c) = V i c := by
  unfold aX0_
  rw [if_neg (by omega), if_pos (by omega), show (12 * i + c) / 12 = i by omega, show (12 * i + c) % 12 = c by omega]
theorem mX_0 {i : Nat} (hi : i < 11) : mX0_ (12 * i + 0) = fun _ => 0 := by
  unfold mX0_
  rw [if_pos (by omega), show (12 * i + 0) % 12 = 0 by omega]
  all_goals rfl
theorem mX_1 {i : Nat} (hi : i < 11) : mX0_ (12 * i + 1) = fr_ 96 (-15) := by
  unfold mX0_
  rw [if_pos (by omega), show (12 * i + 1) % 12 = 1 by omega]
  all_goals rfl
theorem mX_2 {i : Nat} (hi : i < 11) : mX0_ (12 * i + 2) = fr_ 24 (-15) := by
  unfold mX0_
  rw [if_pos (by omega), show (12 * i + 2) % 12 = 2 by omega]
  all_goals rfl
theorem mX_3 {i : Nat} (hi : i < 11) : mX0_ (12 * i + 3) = fun _ => 0 := by
  unfold mX0_
  rw [if_pos (by omega), show (12 * i + 3) % 12 = 3 by omega]
  all_goals rfl
theorem mX_4 {i : Nat} (hi : i < 11) : mX0_ (12 * i + 4) = fr_ 24 (-1) := by
  unfold mX0_
  rw [if_pos (by omega), show (12 * i + 4) % 12 = 4 by omega]
  all_goals rfl
theorem mX_5 {i : Nat} (hi : i < 11) : mX0_ (12 * i + 5) = fun _ => 0 := by
  unfold mX0_
  rw [if_pos (by omega), show (12 * i + 5) % 12 = 5 by omega]
  all_goals rfl
theorem mX_6 {i : Nat} (hi : i < 11) : mX0_ (12 * i + 6) = fr_ 6 (-15) := by
  unfold mX0_
  rw [if_pos (by omega), show (12 * i + 6) % 12 = 6 by omega]
  all_goals rfl
theorem mX_7 {i : Nat} (hi : i < 11) : mX0_ (12 * i + 7) = fun _ => 0 := by
  unfold mX0_
  rw [if_pos (by omega), show (12 * i + 7) % 12 = 7 by omega]
  all_goals rfl
theorem mX_8 {i : Nat} (hi : i < 11) : mX0_ (12 * i + 8) = fun _ => 0 := by
  unfold mX0_
  rw [if_pos (by omega), show (12 * i + 8) % 12 = 8 by omega]
  all_goals rfl
theorem mX_9 {i : Nat} (hi : i < 11) : mX0_ (12 * i + 9) = fun _ => 0 := by
  unfold mX0_
  rw [if_pos (by omega), show (12 * i + 9) % 12 = 9 by omega]
  all_goals rfl
theorem mX_10 {i : Nat} (hi : i < 11) : mX0_ (12 * i + 10) = fun _ => 0 := by
  unfold mX0_
  rw [if_pos (by omega), show (12 * i + 10) % 12 = 10 by omega]
  all_goals rfl
theorem mX_11 {i : Nat} (hi : i < 11) : mX0_ (12 * i + 11) = fun _ => 0 := by
  unfold mX0_
  rw [if_pos (by omega), show (12 * i + 11) % 12 = 11 by omega]
  all_goals rfl
theorem wX_h {G : gp_} {q : Nat} {U : Nat → Nat} {V : Nat → Nat → Nat} {O : Nat → Nat} {i j : Nat} (hi : 1 ≤ i ∧ i < 11) (hj : j < 12) : (hX2_ G (V i 0) (V i))[j]? = some (aX0_ q U V O (12 * i + j), ceX G (aX0_ q U V O) (12 * i + j) (mX0_ (12 * i + j))) := by
  match j, hj with
  | 0, _ =>
    rw [ceXh_0 _ _ _ i hi.2, mX_0 hi.2, aX_h hi (show 0 < 12 by decide), aX_h hi (show 1 < 12 by decide), aX_h hi (show 2 < 12 by decide), aX_h hi (show 3 < 12 by decide), aX_h hi (show 4 < 12 by decide), aX_h hi (show 5 < 12 by decide), aX_h hi (show 6 < 12 by decide), aX_h hi (show 7 < 12 by decide), aX_h hi (show 8 < 12 by decide), aX_h hi (show 10 < 12 by decide)]
    rfl
  | 1, _ =>
    rw [ceXh_1 _ _ _ i hi.2, mX_1 hi.2, aX_h hi (show 1 < 12 by decide)]
    rfl
  | 2, _ =>
    rw [ceXh_2 _ _ _ i hi.2, mX_2 hi.2, aX_h hi (show 2 < 12 by decide)]
    rfl
  | 3, _ =>
    rw [ceXh_3 _ _ _ i hi.2, mX_3 hi.2, aX_h hi (show 3 < 12 by decide)]
    rfl
  | 4, _ =>
    rw [ceXh_4 _ _ _ i hi.2, mX_4 hi.2, aX_h hi (show 4 < 12 by decide)]
    rfl
  | 5, _ =>
    rw [ceXh_5 _ _ _ i hi.2, mX_5 hi.2, aX_h hi (show 5 < 12 by decide)]
    rfl
  | 6, _ =>
    rw [ceXh_6 _ _ _ i hi.2, mX_6 hi.2, aX_h hi (show 6 < 12 by decide)]
    rfl
  | 7, _ =>
    rw [ceXh_7 _ _ _ i hi.2, mX_7 hi.2, aX_h hi (show 7 < 12 by decide)]
    rfl
  | 8, _ =>
    rw [ceXh_8 _ _ _ i hi.2, mX_8 hi.2, aX_h hi (show 8 < 12 by decide), aX_h hi (show 9 < 12 by decide)]
    rfl
  | 9, _ =>
    rw [ceXh_9 _ _ _ i hi.2, mX_9 hi.2, aX_h hi (show 9 < 12 by decide)]
    rfl
  | 10, _ =>
    rw [ceXh_10 _ _ _ i hi.2, mX_10 hi.2, aX_h hi (show 10 < 12 by decide), aX_h hi (show 11 < 12 by decide)]
    rfl
  | 11, _ =>
    rw [ceXh_11 _ _ _ i hi.2, mX_11 hi.2, aX_h hi (show 11 < 12 by decide)]
    rfl
  | n + 12, h => exact absurd h (by omega)
theorem wX0_0 {G : gp_} {q : Nat} {U : Nat → Nat} {V : Nat → Nat → Nat} {O : Nat → Nat} : (hX11_ G q U V O)[1]? = some (aX0_ q U V O 0, ceX G (aX0_ q U V O) 0 (mX0_ 0)) := (hX11_A (by decide)).trans rfl
theorem wX0_1 {G : gp_} {q : Nat} {U : Nat → Nat} {V : Nat → Nat → Nat} {O : Nat → Nat} : (hX11_ G q U V O)[2]? = some (aX0_ q U V O 1, ceX G (aX0_ q U V O) 1 (mX0_ 1)) := (hX11_A (by decide)).trans rfl
theorem wX0_2 {G : gp_} {q : Nat} {U : Nat → Nat} {V : Nat → Nat → Nat} {O : Nat → Nat} : (hX11_ G q U V O)[3]? = some (aX0_ q U V O 2, ceX G (aX0_ q U V O) 2 (mX0_ 2)) := (hX11_A (by decide)).trans rfl
theorem wX0_3 {G : gp_} {q : Nat} {U : Nat → Nat} {V : Nat → Nat → Nat} {O : Nat → Nat} : (hX11_ G q U V O)[4]? = some (aX0_ q U V O 3, ceX G (aX0_ q U V O) 3 (mX0_ 3)) := (hX11_A (by decide)).trans rfl
theorem wX0_4 {G : gp_} {q : Nat} {U : Nat → Nat} {V : Nat → Nat → Nat} {O : Nat → Nat} : (hX11_ G q U V O)[5]? = some (aX0_ q U V O 4, ceX G (aX0_ q U V O) 4 (mX0_ 4)) := (hX11_A (by decide)).trans rfl
theorem wX0_5 {G : gp_} {q : Nat} {U : Nat → Nat} {V : Nat → Nat → Nat} {O : Nat → Nat} : (hX11_ G q U V O)[6]? = some (aX0_ q U V O 5, ceX G (aX0_ q U V O) 5 (mX0_ 5)) := (hX11_A (by decide)).trans rfl
theorem wX0_6 {G : gp_} {q : Nat} {U : Nat → Nat} {V : Nat → Nat → Nat} {O : Nat → Nat} : (hX11_ G q U V O)[7]? = some (aX0_ q U V O 6, ceX G (aX0_ q U V O) 6 (mX0_ 6)) := (hX11_A (by decide)).trans rfl
theorem wX0_7 {G : gp_} {q : Nat} {U : Nat → Nat} {V : Nat → Nat → Nat} {O : Nat → Nat} : (hX11_ G q U V O)[8]? = some (aX0_ q U V O 7, ceX G (aX0_ q U V O) 7 (mX0_ 7)) := (hX11_A (by decide)).trans rfl
theorem wX0_8 {G : gp_} {q : Nat} {U : Nat → Nat} {V : Nat → Nat → Nat} {O : Nat → Nat} : (hX11_ G q U V O)[9]? = some (aX0_ q U V O 8, ceX G (aX0_ q U V O) 8 (mX0_ 8)) := (hX11_A (by decide)).trans rfl
theorem wX0_9 {G : gp_} {q : Nat} {U : Nat → Nat} {V : Nat → Nat → Nat} {O : Nat → Nat} : (hX11_ G q U V O)[10]? = some (aX0_ q U V O 9, ceX G (aX0_ q U V O) 9 (mX0_ 9)) := (hX11_A (by decide)).trans rfl
theorem wX0_10 {G : gp_} {q : Nat} {U : Nat → Nat} {V : Nat → Nat → Nat} {O : Nat → Nat} : (hX11_ G q U V O)[11]? = some (aX0_ q U V O 10, ceX G (aX0_ q U V O) 10 (mX0_ 10)) := (hX11_A (by decide)).trans rfl
theorem wX0_11 {G : gp_} {q : Nat} {U : Nat → Nat} {V : Nat → Nat → Nat} {O : Nat → Nat} : (hX11_ G q U V O)[12]? = some (aX0_ q U V O 11, ceX G (aX0_ q U V O) 11 (mX0_ 11)) := (hX11_A (by decide)).trans rfl
theorem wX0_132 {G : gp_} {q : Nat} {U : Nat → Nat} {V : Nat → Nat → Nat} {O : Nat → Nat} : (hX11_ G q U V O)[0]? = some (aX0_ q U V O 132, ceX G (aX0_ q U V O) 132 (mX0_ 132)) := (hX11_A (by decide)).trans rfl
theorem wX0_133 {G : gp_} {q : Nat} {U : Nat → Nat} {V : Nat → Nat → Nat} {O : Nat → Nat} : (hX11_ G q U V O)[13]? = some (aX0_ q U V O 133, ceX G (aX0_ q U V O) 133 (mX0_ 133)) := (hX11_A (by decide)).trans rfl
theorem wX0_134 {G : gp_} {q : Nat} {U : Nat → Nat} {V : Nat → Nat → Nat} {O : Nat → Nat} : (hX11_ G q U V O)[14]? = some (aX0_ q U V O 134, ceX G (aX0_ q U V O) 134 (mX0_ 134)) := (hX11_A (by decide)).trans rfl
theorem wX0_135 {G : gp_} {q : Nat} {U : Nat → Nat} {V : Nat → Nat → Nat} {O : Nat → Nat} : (hX11_ G q U V O)[15]? = some (aX0_ q U V O 135, ceX G (aX0_ q U V O) 135 (mX0_ 135)) := (hX11_A (by decide)).trans rfl
theorem wX0_136 {G : gp_} {q : Nat} {U : Nat → Nat} {V : Nat → Nat → Nat} {O : Nat → Nat} : (hX11_ G q U V O)[16]? = some (aX0_ q U V O 136, ceX G (aX0_ q U V O) 136 (mX0_ 136)) := (hX11_A (by decide)).trans rfl
theorem wX0_137 {G : gp_} {q : Nat} {U : Nat → Nat} {V : Nat → Nat → Nat} {O : Nat → Nat} : (hX11_ G q U V O)[17]? = some (aX0_ q U V O 137, ceX G (aX0_ q U V O) 137 (mX0_ 137)) := (hX11_A (by decide)).trans rfl
theorem wX0_138 {G : gp_} {q : Nat} {U : Nat → Nat} {V : Nat → Nat → Nat} {O : Nat → Nat} : (hX11_ G q U V O)[18]? = some (aX0_ q U V O 138, ceX G (aX0_ q U V O) 138 (mX0_ 138)) := (hX11_A (by decide)).trans rfl
theorem wX0_140 {G : gp_} {q : Nat} {U : Nat → Nat} {V : Nat → Nat → Nat} {O : Nat → Nat} : (hX11_ G q U V O)[140]? = some (aX0_ q U V O 140, ceX G (aX0_ q U V O) 140 (mX0_ 140)) := (hX11_R 0).trans rfl
theorem wX0_141 {G : gp_} {q : Nat} {U : Nat → Nat} {V : Nat → Nat → Nat} {O : Nat → Nat} : (hX11_ G q U V O)[141]? = some (aX0_ q U V O 141, ceX G (aX0_ q U V O) 141 (mX0_ 141)) := (hX11_R 1).trans rfl
theorem wX0_142 {G : gp_} {q : Nat} {U : Nat → Nat} {V : Nat → Nat → Nat} {O : Nat → Nat} : (hX11_ G q U V O)[142]? = some (aX0_ q U V O 142, ceX G (aX0_ q U V O) 142 (mX0_ 142)) := (hX11_R 2).trans rfl
theorem wX0_143 {G : gp_} {q : Nat} {U : Nat → Nat} {V : Nat → Nat → Nat} {O : Nat → Nat} : (hX11_ G q U V O)[143]? = some (aX0_ q U V O 143, ceX G (aX0_ q U V O) 143 (mX0_ 143)) := (hX11_R 3).trans rfl
theorem wX0_144 {G : gp_} {q : Nat} {U : Nat → Nat} {V : Nat → Nat → Nat} {O : Nat → Nat} : (hX11_ G q U V O)[144]? = some (aX0_ q U V O 144, ceX G (aX0_ q U V O) 144 (mX0_ 144)) := (hX11_R 4).trans rfl
theorem wX0_145 {G : gp_} {q : Nat} {U : Nat → Nat} {V : Nat → Nat → Nat} {O : Nat → Nat} : (hX11_ G q U V O)[145]? = some (aX0_ q U V O 145, ceX G (aX0_ q U V O) 145 (mX0_ 145)) := (hX11_R 5).trans rfl
theorem wX0_146 {G : gp_} {q : Nat} {U : Nat → Nat} {V : Nat → Nat → Nat} {O : Nat → Nat} : (hX11_ G q U V O)[146]? = some (aX0_ q U V O 146, ceX G (aX0_ q U V O) 146 (mX0_ 146)) := (hX11_R 6).trans rfl
theorem wX0_147 {G : gp_} {q : Nat} {U : Nat → Nat} {V : Nat → Nat → Nat} {O : Nat → Nat} : (hX11_ G q U V O)[147]? = some (aX0_ q U V O 147, ceX G (aX0_ q U V O) 147 (mX0_ 147)) := (hX11_R 7).trans rfl
theorem wX0_148 {G : gp_} {q : Nat} {U : Nat → Nat} {V : Nat → Nat → Nat} {O : Nat → Nat} : (hX11_ G q U V O)[148]? = some (aX0_ q U V O 148, ceX G (aX0_ q U V O) 148 (mX0_ 148)) := (hX11_R 8).trans rfl
theorem wX0_149 {G : gp_} {q : Nat} {U : Nat → Nat} {V : Nat → Nat → Nat} {O : Nat → Nat} : (hX11_ G q U V O)[149]? = some (aX0_ q U V O 149, ceX G (aX0_ q U V O) 149 (mX0_ 149)) := (hX11_R 9).trans rfl
theorem wX0_150 {G : gp_} {q : Nat} {U : Nat → Nat} {V : Nat → Nat → Nat} {O : Nat → Nat} : (hX11_ G q U V O)[150]? = some (aX0_ q U V O 150, ceX G (aX0_ q U V O) 150 (mX0_ 150)) := (hX11_R 10).trans rfl
theorem wX0_139 {G : gp_} {q : Nat} {U : Nat → Nat} {V : Nat → Nat → Nat} {O : Nat → Nat} : (hX11_ G q U V O)[19]? = some (aX0_ q U V O 139, .inl (G.1.1 102, 9, .inr (.inr (.inr (.inr (fun j => some (V (j + 1) 0))))))) := (hX11_A (by decide)).trans rfl
set_option maxRecDepth 100000 in
theorem wX0_all {G : gp_} {q : Nat} {U : Nat → Nat} {V : Nat → Nat → Nat} {O : Nat → Nat} : ∀ k, k < 151 → k ≠ 139 → (hX11_ G q U V O)[sX0_ k]? = some (aX0_ q U V O k, ceX G (aX0_ q U V O) k (mX0_ k)) := fun k hk hn => by
  by_cases hm : 12 ≤ k ∧ k < 132
  · have e9 : 12 * (k / 12) + k % 12 = k := by omega
    have hi : 1 ≤ k / 12 ∧ k / 12 < 11 := by omega
    have hj : k % 12 < 12 := by omega
    have h1 := wX_h (G := G) (q := q) (U := U) (V := V) (O := O) hi hj
    rw [e9] at h1
    rw [← h1]
    by_cases h10 : k / 12 = 10
    · rw [show sX0_ k = 20 + (k % 12) by unfold sX0_; rw [if_neg (by omega), if_neg (by omega), if_pos (by omega)]; omega, hX11_L (by omega), hL_at0 9 _ hj, h10]
    · rw [show sX0_ k = 20 + (12 * (k / 12) + k % 12) by unfold sX0_; rw [if_neg (by omega), if_pos (by omega)]; omega, hX11_L (by omega), hL_at 9 _ _ hi.1 (by omega) hj]
  · obtain ⟨j, hj⟩ : ∃ j, j = k := ⟨k, rfl⟩
    rcases (show k = 0 ∨ k = 1 ∨ k = 2 ∨ k = 3 ∨ k = 4 ∨ k = 5 ∨ k = 6 ∨ k = 7 ∨ k = 8 ∨ k = 9 ∨ k = 10 ∨ k = 11 ∨ k = 132 ∨ k = 133 ∨ k = 134 ∨ k = 135 ∨ k = 136 ∨ k = 137 ∨ k = 138 ∨ k = 140 ∨ k = 141 ∨ k = 142 ∨ k = 143 ∨ k = 144 ∨ k = 145 ∨ k = 146 ∨ k = 147 ∨ k = 148 ∨ k = 149 ∨ k = 150 by omega) with rfl | rfl | rfl | rfl | rfl | rfl | rfl | rfl | rfl | rfl | rfl | rfl | rfl | rfl | rfl | rfl | rfl | rfl | rfl | rfl | rfl | rfl | rfl | rfl | rfl | rfl | rfl | rfl | rfl | rfl
    · exact wX0_0
    · exact wX0_1
    · exact wX0_2
    · exact wX0_3
    · exact wX0_4
    · exact wX0_5
    · exact wX0_6
    · exact wX0_7
    · exact wX0_8
    · exact wX0_9
    · exact wX0_10
    · exact wX0_11
    · exact wX0_132
    · exact wX0_133
    · exact wX0_134
    · exact wX0_135
    · exact wX0_136
    · exact wX0_137
    · exact wX0_138
    · exact wX0_140
    · exact wX0_141
    · exact wX0_142
    · exact wX0_143
    · exact wX0_144
    · exact wX0_145
    · exact wX0_146
    · exact wX0_147
    · exact wX0_148
    · exact wX0_149
    · exact wX0_150
theorem wX0_ok {G : gp_} {q : Nat} {U : Nat → Nat} {V : Nat → Nat → Nat} {O : Nat → Nat} : (∀ H, va_P G.1 vwCl (hX11_ G q U V O) H → va_P G.1 vwCl (wl_ 151 (aX0_ q U V O) (ceX G (aX0_ q U V O)) mX0_) H) ∧ ∀ A, va_D A (hX11_ G q U V O) → va_D A (wl_ 151 (aX0_ q U V O) (ceX G (aX0_ q U V O)) mX0_) := by
  have hlt : ∀ (k : Nat) (x : Nat × va_E), (wl_ 151 (aX0_ q U V O) (ceX G (aX0_ q U V O)) mX0_)[k]? = some x → k < 151 := fun k x hx => by
    rcases Nat.lt_or_ge k 151 with z | z
    · exact z
    · rw [List.getElem?_eq_none (by unfold wl_; rw [List.length_map, List.length_range]; omega)] at hx; cases hx
  have hpas : ∀ H, va_P G.1 vwCl (hX11_ G q U V O) H → va_at G.1 vwCl (aX0_ q U V O 139, ceX G (aX0_ q U V O) 139 (mX0_ 139)) H := fun H hP => by
    have h1 := hP 19 _ wX0_139
    rw [ceX_139]
    show H[aX0_ q U V O 139]? = some (vp_cell _ _)
    have h2 : H[aX0_ q U V O 139]? = some (vp_cell (G.1.1 102) (9, .inr (.inr (.inr (.inr (fun j => some (V (j + 1) 0))))))) := h1
    rw [h2, vp_cell_q, vp_cell_q]
    unfold arrV
    rw [show (fun j : Fin 9 => va_rf (some (V (j.val + 1) 0))) = fun j : Fin 9 => va_rf (some (aX0_ q U V O (12 * (j.val + 1)))) from funext fun j => by
      have e : aX0_ q U V O (12 * (j.val + 1) + 0) = V (j.val + 1) 0 := aX_h ⟨by omega, by have := j.isLt; omega⟩ (by decide)
      rw [Nat.add_zero] at e
      rw [e]]
  have hix : ∀ (k : Nat) (x : Nat × va_E), (wl_ 151 (aX0_ q U V O) (ceX G (aX0_ q U V O)) mX0_)[k]? = some x → ∃ y, (hX11_ G q U V O)[sX0_ k]? = some y ∧ y.1 = x.1 := fun k x hx => by
    have hk := hlt k x hx
    rw [wl_get hk] at hx
    obtain rfl := Option.some.inj hx
    by_cases h9 : k = 139
    · subst h9
      exact ⟨_, wX0_139, rfl⟩
    · exact ⟨_, wX0_all k hk h9, rfl⟩
  refine ⟨fun H hP k x hx => ?_, fun A hD => ⟨fun i j x y hx hy hxy => ?_, fun k x hx => ?_⟩⟩
  · have hk := hlt k x hx
    rw [wl_get hk] at hx
    obtain rfl := Option.some.inj hx
    by_cases h9 : k = 139
    · subst h9
      exact hpas H hP
    · exact hP _ _ (wX0_all k hk h9)
  · obtain ⟨x1, hx1, ex⟩ := hix i x hx
    obtain ⟨y1, hy1, ey⟩ := hix j y hy
    exact sX0_inj i j (hlt i x hx) (hlt j y hy) (hD.1 _ _ _ _ hx1 hy1 (by rw [ex, ey, hxy]))
  · obtain ⟨x1, hx1, ex⟩ := hix k x hx
    rw [← ex]
    exact hD.2 _ _ hx1
theorem am_id (ad : Nat → Nat) : am_ ad (ad 142) (ad 150) = ad := by
  funext k
  unfold am_
  by_cases h1 : k = 142
  · subst h1
    rfl
  · rw [beq9 h1]
    by_cases h2 : k = 150
    · subst h2
      rfl
    · rw [beq9 h2]
      rfl
