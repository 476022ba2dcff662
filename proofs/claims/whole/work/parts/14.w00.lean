/-! the law from its entry (written by wip/gen/wgen.py) -/
def mX0_ : mu_T := fun k => if k < 132 then (match k % 12 with
  | 1 => fr_ 96 (-15)
  | 2 => fr_ 24 (-15)
  | 4 => fr_ 24 (-1)
  | 6 => fr_ 6 (-15)
  | _ => fun _ => 0) else match k with
  | 133 => fun _ => -15
  | 142 => br_ 16
  | 143 => fun _ => -1
  | 150 => br_ 16
  | _ => fun _ => 0
def aX0_ (q : Nat) (U : Nat → Nat) (V : Nat → Nat → Nat) (O : Nat → Nat) : Nat → Nat := fun k => if k < 12 then U k else if k < 132 then V (k / 12) (k % 12) else if k = 132 then q else O (k - 132)
def sX0_ (k : Nat) : Nat := if k < 12 then k + 1 else if k < 120 then k + 20 else if k < 132 then k - 100 else if k = 132 then 0 else if k < 140 then k - 120 else k
theorem wv_wl {G : gp_} {X : ct_} {N : Nat} {ad : Nat → Nat} {ce : Nat → (Int → Int) → va_E} {μ : mu_T} {k n pc : Nat} {lv : List (Nat × Value)} {st : List Value} (h : wx_ G X N ad ce μ k n pc lv st) : wv_ G X (wl_ N ad ce μ) k n pc lv st := by
  obtain ⟨p, l, e9, R, s, m, args, below, meth, c, Q, A, nL⟩ := X
  intro H locs ls hP hD hS hl
  rw [wl_L] at hP hD
  exact h H locs ls hP hD hS hl
theorem wv_map {G : gp_} {X : ct_} {w1 w2 : va_W} {k n pc : Nat} {lv : List (Nat × Value)} {st : List Value} (hP : ∀ H, va_P G.1 vwCl w1 H → va_P G.1 vwCl w2 H) (hD : ∀ A, va_D A w1 → va_D A w2) (h : wv_ G X w2 k n pc lv st) : wv_ G X w1 k n pc lv st := by
  obtain ⟨p, l, e9, R, s, m, args, below, meth, c, Q, A, nL⟩ := X
  intro H locs ls hP0 hD0 hS hl
  rw [wl_L] at hP0 hD0
  exact h H locs ls (by rw [wl_L]; exact hP H hP0) (by rw [wl_L]; exact hD A hD0) hS hl
set_option maxRecDepth 100000 in
theorem sX0_inj : ∀ i j : Nat, i < 151 → j < 151 → sX0_ i = sX0_ j → i = j := fun i j hi hj h => by
  unfold sX0_ at h
  repeat' split at h
  all_goals omega
theorem wX0_0 {G : gp_} {q : Nat} {U : Nat → Nat} {V : Nat → Nat → Nat} {O : Nat → Nat} : (hX11_ G q U V O)[1]? = some (aX0_ q U V O 0, ceX G (aX0_ q U V O) 0 (mX0_ 0)) := rfl
theorem wX0_1 {G : gp_} {q : Nat} {U : Nat → Nat} {V : Nat → Nat → Nat} {O : Nat → Nat} : (hX11_ G q U V O)[2]? = some (aX0_ q U V O 1, ceX G (aX0_ q U V O) 1 (mX0_ 1)) := rfl
theorem wX0_2 {G : gp_} {q : Nat} {U : Nat → Nat} {V : Nat → Nat → Nat} {O : Nat → Nat} : (hX11_ G q U V O)[3]? = some (aX0_ q U V O 2, ceX G (aX0_ q U V O) 2 (mX0_ 2)) := rfl
theorem wX0_3 {G : gp_} {q : Nat} {U : Nat → Nat} {V : Nat → Nat → Nat} {O : Nat → Nat} : (hX11_ G q U V O)[4]? = some (aX0_ q U V O 3, ceX G (aX0_ q U V O) 3 (mX0_ 3)) := rfl
theorem wX0_4 {G : gp_} {q : Nat} {U : Nat → Nat} {V : Nat → Nat → Nat} {O : Nat → Nat} : (hX11_ G q U V O)[5]? = some (aX0_ q U V O 4, ceX G (aX0_ q U V O) 4 (mX0_ 4)) := rfl
theorem wX0_5 {G : gp_} {q : Nat} {U : Nat → Nat} {V : Nat → Nat → Nat} {O : Nat → Nat} : (hX11_ G q U V O)[6]? = some (aX0_ q U V O 5, ceX G (aX0_ q U V O) 5 (mX0_ 5)) := rfl
theorem wX0_6 {G : gp_} {q : Nat} {U : Nat → Nat} {V : Nat → Nat → Nat} {O : Nat → Nat} : (hX11_ G q U V O)[7]? = some (aX0_ q U V O 6, ceX G (aX0_ q U V O) 6 (mX0_ 6)) := rfl
theorem wX0_7 {G : gp_} {q : Nat} {U : Nat → Nat} {V : Nat → Nat → Nat} {O : Nat → Nat} : (hX11_ G q U V O)[8]? = some (aX0_ q U V O 7, ceX G (aX0_ q U V O) 7 (mX0_ 7)) := rfl
theorem wX0_8 {G : gp_} {q : Nat} {U : Nat → Nat} {V : Nat → Nat → Nat} {O : Nat → Nat} : (hX11_ G q U V O)[9]? = some (aX0_ q U V O 8, ceX G (aX0_ q U V O) 8 (mX0_ 8)) := rfl
theorem wX0_9 {G : gp_} {q : Nat} {U : Nat → Nat} {V : Nat → Nat → Nat} {O : Nat → Nat} : (hX11_ G q U V O)[10]? = some (aX0_ q U V O 9, ceX G (aX0_ q U V O) 9 (mX0_ 9)) := rfl
theorem wX0_10 {G : gp_} {q : Nat} {U : Nat → Nat} {V : Nat → Nat → Nat} {O : Nat → Nat} : (hX11_ G q U V O)[11]? = some (aX0_ q U V O 10, ceX G (aX0_ q U V O) 10 (mX0_ 10)) := rfl
theorem wX0_11 {G : gp_} {q : Nat} {U : Nat → Nat} {V : Nat → Nat → Nat} {O : Nat → Nat} : (hX11_ G q U V O)[12]? = some (aX0_ q U V O 11, ceX G (aX0_ q U V O) 11 (mX0_ 11)) := rfl
theorem wX0_12 {G : gp_} {q : Nat} {U : Nat → Nat} {V : Nat → Nat → Nat} {O : Nat → Nat} : (hX11_ G q U V O)[32]? = some (aX0_ q U V O 12, ceX G (aX0_ q U V O) 12 (mX0_ 12)) := rfl
theorem wX0_13 {G : gp_} {q : Nat} {U : Nat → Nat} {V : Nat → Nat → Nat} {O : Nat → Nat} : (hX11_ G q U V O)[33]? = some (aX0_ q U V O 13, ceX G (aX0_ q U V O) 13 (mX0_ 13)) := rfl
theorem wX0_14 {G : gp_} {q : Nat} {U : Nat → Nat} {V : Nat → Nat → Nat} {O : Nat → Nat} : (hX11_ G q U V O)[34]? = some (aX0_ q U V O 14, ceX G (aX0_ q U V O) 14 (mX0_ 14)) := rfl
theorem wX0_15 {G : gp_} {q : Nat} {U : Nat → Nat} {V : Nat → Nat → Nat} {O : Nat → Nat} : (hX11_ G q U V O)[35]? = some (aX0_ q U V O 15, ceX G (aX0_ q U V O) 15 (mX0_ 15)) := rfl
theorem wX0_16 {G : gp_} {q : Nat} {U : Nat → Nat} {V : Nat → Nat → Nat} {O : Nat → Nat} : (hX11_ G q U V O)[36]? = some (aX0_ q U V O 16, ceX G (aX0_ q U V O) 16 (mX0_ 16)) := rfl
theorem wX0_17 {G : gp_} {q : Nat} {U : Nat → Nat} {V : Nat → Nat → Nat} {O : Nat → Nat} : (hX11_ G q U V O)[37]? = some (aX0_ q U V O 17, ceX G (aX0_ q U V O) 17 (mX0_ 17)) := rfl
theorem wX0_18 {G : gp_} {q : Nat} {U : Nat → Nat} {V : Nat → Nat → Nat} {O : Nat → Nat} : (hX11_ G q U V O)[38]? = some (aX0_ q U V O 18, ceX G (aX0_ q U V O) 18 (mX0_ 18)) := rfl
theorem wX0_19 {G : gp_} {q : Nat} {U : Nat → Nat} {V : Nat → Nat → Nat} {O : Nat → Nat} : (hX11_ G q U V O)[39]? = some (aX0_ q U V O 19, ceX G (aX0_ q U V O) 19 (mX0_ 19)) := rfl
theorem wX0_20 {G : gp_} {q : Nat} {U : Nat → Nat} {V : Nat → Nat → Nat} {O : Nat → Nat} : (hX11_ G q U V O)[40]? = some (aX0_ q U V O 20, ceX G (aX0_ q U V O) 20 (mX0_ 20)) := rfl
theorem wX0_21 {G : gp_} {q : Nat} {U : Nat → Nat} {V : Nat → Nat → Nat} {O : Nat → Nat} : (hX11_ G q U V O)[41]? = some (aX0_ q U V O 21, ceX G (aX0_ q U V O) 21 (mX0_ 21)) := rfl
theorem wX0_22 {G : gp_} {q : Nat} {U : Nat → Nat} {V : Nat → Nat → Nat} {O : Nat → Nat} : (hX11_ G q U V O)[42]? = some (aX0_ q U V O 22, ceX G (aX0_ q U V O) 22 (mX0_ 22)) := rfl
theorem wX0_23 {G : gp_} {q : Nat} {U : Nat → Nat} {V : Nat → Nat → Nat} {O : Nat → Nat} : (hX11_ G q U V O)[43]? = some (aX0_ q U V O 23, ceX G (aX0_ q U V O) 23 (mX0_ 23)) := rfl
theorem wX0_24 {G : gp_} {q : Nat} {U : Nat → Nat} {V : Nat → Nat → Nat} {O : Nat → Nat} : (hX11_ G q U V O)[44]? = some (aX0_ q U V O 24, ceX G (aX0_ q U V O) 24 (mX0_ 24)) := rfl
theorem wX0_25 {G : gp_} {q : Nat} {U : Nat → Nat} {V : Nat → Nat → Nat} {O : Nat → Nat} : (hX11_ G q U V O)[45]? = some (aX0_ q U V O 25, ceX G (aX0_ q U V O) 25 (mX0_ 25)) := rfl
theorem wX0_26 {G : gp_} {q : Nat} {U : Nat → Nat} {V : Nat → Nat → Nat} {O : Nat → Nat} : (hX11_ G q U V O)[46]? = some (aX0_ q U V O 26, ceX G (aX0_ q U V O) 26 (mX0_ 26)) := rfl
theorem wX0_27 {G : gp_} {q : Nat} {U : Nat → Nat} {V : Nat → Nat → Nat} {O : Nat → Nat} : (hX11_ G q U V O)[47]? = some (aX0_ q U V O 27, ceX G (aX0_ q U V O) 27 (mX0_ 27)) := rfl
theorem wX0_28 {G : gp_} {q : Nat} {U : Nat → Nat} {V : Nat → Nat → Nat} {O : Nat → Nat} : (hX11_ G q U V O)[48]? = some (aX0_ q U V O 28, ceX G (aX0_ q U V O) 28 (mX0_ 28)) := rfl
theorem wX0_29 {G : gp_} {q : Nat} {U : Nat → Nat} {V : Nat → Nat → Nat} {O : Nat → Nat} : (hX11_ G q U V O)[49]? = some (aX0_ q U V O 29, ceX G (aX0_ q U V O) 29 (mX0_ 29)) := rfl
theorem wX0_30 {G : gp_} {q : Nat} {U : Nat → Nat} {V : Nat → Nat → Nat} {O : Nat → Nat} : (hX11_ G q U V O)[50]? = some (aX0_ q U V O 30, ceX G (aX0_ q U V O) 30 (mX0_ 30)) := rfl
theorem wX0_31 {G : gp_} {q : Nat} {U : Nat → Nat} {V : Nat → Nat → Nat} {O : Nat → Nat} : (hX11_ G q U V O)[51]? = some (aX0_ q U V O 31, ceX G (aX0_ q U V O) 31 (mX0_ 31)) := rfl
theorem wX0_32 {G : gp_} {q : Nat} {U : Nat → Nat} {V : Nat → Nat → Nat} {O : Nat → Nat} : (hX11_ G q U V O)[52]? = some (aX0_ q U V O 32, ceX G (aX0_ q U V O) 32 (mX0_ 32)) := rfl
theorem wX0_33 {G : gp_} {q : Nat} {U : Nat → Nat} {V : Nat → Nat → Nat} {O : Nat → Nat} : (hX11_ G q U V O)[53]? = some (aX0_ q U V O 33, ceX G (aX0_ q U V O) 33 (mX0_ 33)) := rfl
theorem wX0_34 {G : gp_} {q : Nat} {U : Nat → Nat} {V : Nat → Nat → Nat} {O : Nat → Nat} : (hX11_ G q U V O)[54]? = some (aX0_ q U V O 34, ceX G (aX0_ q U V O) 34 (mX0_ 34)) := rfl
theorem wX0_35 {G : gp_} {q : Nat} {U : Nat → Nat} {V : Nat → Nat → Nat} {O : Nat → Nat} : (hX11_ G q U V O)[55]? = some (aX0_ q U V O 35, ceX G (aX0_ q U V O) 35 (mX0_ 35)) := rfl
theorem wX0_36 {G : gp_} {q : Nat} {U : Nat → Nat} {V : Nat → Nat → Nat} {O : Nat → Nat} : (hX11_ G q U V O)[56]? = some (aX0_ q U V O 36, ceX G (aX0_ q U V O) 36 (mX0_ 36)) := rfl
theorem wX0_37 {G : gp_} {q : Nat} {U : Nat → Nat} {V : Nat → Nat → Nat} {O : Nat → Nat} : (hX11_ G q U V O)[57]? = some (aX0_ q U V O 37, ceX G (aX0_ q U V O) 37 (mX0_ 37)) := rfl
theorem wX0_38 {G : gp_} {q : Nat} {U : Nat → Nat} {V : Nat → Nat → Nat} {O : Nat → Nat} : (hX11_ G q U V O)[58]? = some (aX0_ q U V O 38, ceX G (aX0_ q U V O) 38 (mX0_ 38)) := rfl
theorem wX0_39 {G : gp_} {q : Nat} {U : Nat → Nat} {V : Nat → Nat → Nat} {O : Nat → Nat} : (hX11_ G q U V O)[59]? = some (aX0_ q U V O 39, ceX G (aX0_ q U V O) 39 (mX0_ 39)) := rfl
theorem wX0_40 {G : gp_} {q : Nat} {U : Nat → Nat} {V : Nat → Nat → Nat} {O : Nat → Nat} : (hX11_ G q U V O)[60]? = some (aX0_ q U V O 40, ceX G (aX0_ q U V O) 40 (mX0_ 40)) := rfl
theorem wX0_41 {G : gp_} {q : Nat} {U : Nat → Nat} {V : Nat → Nat → Nat} {O : Nat → Nat} : (hX11_ G q U V O)[61]? = some (aX0_ q U V O 41, ceX G (aX0_ q U V O) 41 (mX0_ 41)) := rfl
theorem wX0_42 {G : gp_} {q : Nat} {U : Nat → Nat} {V : Nat → Nat → Nat} {O : Nat → Nat} : (hX11_ G q U V O)[62]? = some (aX0_ q U V O 42, ceX G (aX0_ q U V O) 42 (mX0_ 42)) := rfl
theorem wX0_43 {G : gp_} {q : Nat} {U : Nat → Nat} {V : Nat → Nat → Nat} {O : Nat → Nat} : (hX11_ G q U V O)[63]? = some (aX0_ q U V O 43, ceX G (aX0_ q U V O) 43 (mX0_ 43)) := rfl
theorem wX0_44 {G : gp_} {q : Nat} {U : Nat → Nat} {V : Nat → Nat → Nat} {O : Nat → Nat} : (hX11_ G q U V O)[64]? = some (aX0_ q U V O 44, ceX G (aX0_ q U V O) 44 (mX0_ 44)) := rfl
theorem wX0_45 {G : gp_} {q : Nat} {U : Nat → Nat} {V : Nat → Nat → Nat} {O : Nat → Nat} : (hX11_ G q U V O)[65]? = some (aX0_ q U V O 45, ceX G (aX0_ q U V O) 45 (mX0_ 45)) := rfl
theorem wX0_46 {G : gp_} {q : Nat} {U : Nat → Nat} {V : Nat → Nat → Nat} {O : Nat → Nat} : (hX11_ G q U V O)[66]? = some (aX0_ q U V O 46, ceX G (aX0_ q U V O) 46 (mX0_ 46)) := rfl
theorem wX0_47 {G : gp_} {q : Nat} {U : Nat → Nat} {V : Nat → Nat → Nat} {O : Nat → Nat} : (hX11_ G q U V O)[67]? = some (aX0_ q U V O 47, ceX G (aX0_ q U V O) 47 (mX0_ 47)) := rfl
theorem wX0_48 {G : gp_} {q : Nat} {U : Nat → Nat} {V : Nat → Nat → Nat} {O : Nat → Nat} : (hX11_ G q U V O)[68]? = some (aX0_ q U V O 48, ceX G (aX0_ q U V O) 48 (mX0_ 48)) := rfl
theorem wX0_49 {G : gp_} {q : Nat} {U : Nat → Nat} {V : Nat → Nat → Nat} {O : Nat → Nat} : (hX11_ G q U V O)[69]? = some (aX0_ q U V O 49, ceX G (aX0_ q U V O) 49 (mX0_ 49)) := rfl
theorem wX0_50 {G : gp_} {q : Nat} {U : Nat → Nat} {V : Nat → Nat → Nat} {O : Nat → Nat} : (hX11_ G q U V O)[70]? = some (aX0_ q U V O 50, ceX G (aX0_ q U V O) 50 (mX0_ 50)) := rfl
theorem wX0_51 {G : gp_} {q : Nat} {U : Nat → Nat} {V : Nat → Nat → Nat} {O : Nat → Nat} : (hX11_ G q U V O)[71]? = some (aX0_ q U V O 51, ceX G (aX0_ q U V O) 51 (mX0_ 51)) := rfl
theorem wX0_52 {G : gp_} {q : Nat} {U : Nat → Nat} {V : Nat → Nat → Nat} {O : Nat → Nat} : (hX11_ G q U V O)[72]? = some (aX0_ q U V O 52, ceX G (aX0_ q U V O) 52 (mX0_ 52)) := rfl
theorem wX0_53 {G : gp_} {q : Nat} {U : Nat → Nat} {V : Nat → Nat → Nat} {O : Nat → Nat} : (hX11_ G q U V O)[73]? = some (aX0_ q U V O 53, ceX G (aX0_ q U V O) 53 (mX0_ 53)) := rfl
theorem wX0_54 {G : gp_} {q : Nat} {U : Nat → Nat} {V : Nat → Nat → Nat} {O : Nat → Nat} : (hX11_ G q U V O)[74]? = some (aX0_ q U V O 54, ceX G (aX0_ q U V O) 54 (mX0_ 54)) := rfl
theorem wX0_55 {G : gp_} {q : Nat} {U : Nat → Nat} {V : Nat → Nat → Nat} {O : Nat → Nat} : (hX11_ G q U V O)[75]? = some (aX0_ q U V O 55, ceX G (aX0_ q U V O) 55 (mX0_ 55)) := rfl
theorem wX0_56 {G : gp_} {q : Nat} {U : Nat → Nat} {V : Nat → Nat → Nat} {O : Nat → Nat} : (hX11_ G q U V O)[76]? = some (aX0_ q U V O 56, ceX G (aX0_ q U V O) 56 (mX0_ 56)) := rfl
theorem wX0_57 {G : gp_} {q : Nat} {U : Nat → Nat} {V : Nat → Nat → Nat} {O : Nat → Nat} : (hX11_ G q U V O)[77]? = some (aX0_ q U V O 57, ceX G (aX0_ q U V O) 57 (mX0_ 57)) := rfl
theorem wX0_58 {G : gp_} {q : Nat} {U : Nat → Nat} {V : Nat → Nat → Nat} {O : Nat → Nat} : (hX11_ G q U V O)[78]? = some (aX0_ q U V O 58, ceX G (aX0_ q U V O) 58 (mX0_ 58)) := rfl
theorem wX0_59 {G : gp_} {q : Nat} {U : Nat → Nat} {V : Nat → Nat → Nat} {O : Nat → Nat} : (hX11_ G q U V O)[79]? = some (aX0_ q U V O 59, ceX G (aX0_ q U V O) 59 (mX0_ 59)) := rfl
theorem wX0_60 {G : gp_} {q : Nat} {U : Nat → Nat} {V : Nat → Nat → Nat} {O : Nat → Nat} : (hX11_ G q U V O)[80]? = some (aX0_ q U V O 60, ceX G (aX0_ q U V O) 60 (mX0_ 60)) := rfl
theorem wX0_61 {G : gp_} {q : Nat} {U : Nat → Nat} {V : Nat → Nat → Nat} {O : Nat → Nat} : (hX11_ G q U V O)[81]? = some (aX0_ q U V O 61, ceX G (aX0_ q U V O) 61 (mX0_ 61)) := rfl
theorem wX0_62 {G : gp_} {q : Nat} {U : Nat → Nat} {V : Nat → Nat → Nat} {O : Nat → Nat} : (hX11_ G q U V O)[82]? = some (aX0_ q U V O 62, ceX G (aX0_ q U V O) 62 (mX0_ 62)) := rfl
theorem wX0_63 {G : gp_} {q : Nat} {U : Nat → Nat} {V : Nat → Nat → Nat} {O : Nat → Nat} : (hX11_ G q U V O)[83]? = some (aX0_ q U V O 63, ceX G (aX0_ q U V O) 63 (mX0_ 63)) := rfl
theorem wX0_64 {G : gp_} {q : Nat} {U : Nat → Nat} {V : Nat → Nat → Nat} {O : Nat → Nat} : (hX11_ G q U V O)[84]? = some (aX0_ q U V O 64, ceX G (aX0_ q U V O) 64 (mX0_ 64)) := rfl
theorem wX0_65 {G : gp_} {q : Nat} {U : Nat → Nat} {V : Nat → Nat → Nat} {O : Nat → Nat} : (hX11_ G q U V O)[85]? = some (aX0_ q U V O 65, ceX G (aX0_ q U V O) 65 (mX0_ 65)) := rfl
theorem wX0_66 {G : gp_} {q : Nat} {U : Nat → Nat} {V : Nat → Nat → Nat} {O : Nat → Nat} : (hX11_ G q U V O)[86]? = some (aX0_ q U V O 66, ceX G (aX0_ q U V O) 66 (mX0_ 66)) := rfl
theorem wX0_67 {G : gp_} {q : Nat} {U : Nat → Nat} {V : Nat → Nat → Nat} {O : Nat → Nat} : (hX11_ G q U V O)[87]? = some (aX0_ q U V O 67, ceX G (aX0_ q U V O) 67 (mX0_ 67)) := rfl
theorem wX0_68 {G : gp_} {q : Nat} {U : Nat → Nat} {V : Nat → Nat → Nat} {O : Nat → Nat} : (hX11_ G q U V O)[88]? = some (aX0_ q U V O 68, ceX G (aX0_ q U V O) 68 (mX0_ 68)) := rfl
theorem wX0_69 {G : gp_} {q : Nat} {U : Nat → Nat} {V : Nat → Nat → Nat} {O : Nat → Nat} : (hX11_ G q U V O)[89]? = some (aX0_ q U V O 69, ceX G (aX0_ q U V O) 69 (mX0_ 69)) := rfl
theorem wX0_70 {G : gp_} {q : Nat} {U : Nat → Nat} {V : Nat → Nat → Nat} {O : Nat → Nat} : (hX11_ G q U V O)[90]? = some (aX0_ q U V O 70, ceX G (aX0_ q U V O) 70 (mX0_ 70)) := rfl
theorem wX0_71 {G : gp_} {q : Nat} {U : Nat → Nat} {V : Nat → Nat → Nat} {O : Nat → Nat} : (hX11_ G q U V O)[91]? = some (aX0_ q U V O 71, ceX G (aX0_ q U V O) 71 (mX0_ 71)) := rfl
theorem wX0_72 {G : gp_} {q : Nat} {U : Nat → Nat} {V : Nat → Nat → Nat} {O : Nat → Nat} : (hX11_ G q U V O)[92]? = some (aX0_ q U V O 72, ceX G (aX0_ q U V O) 72 (mX0_ 72)) := rfl
theorem wX0_73 {G : gp_} {q : Nat} {U : Nat → Nat} {V : Nat → Nat → Nat} {O : Nat → Nat} : (hX11_ G q U V O)[93]? = some (aX0_ q U V O 73, ceX G (aX0_ q U V O) 73 (mX0_ 73)) := rfl
theorem wX0_74 {G : gp_} {q : Nat} {U : Nat → Nat} {V : Nat → Nat → Nat} {O : Nat → Nat} : (hX11_ G q U V O)[94]? = some (aX0_ q U V O 74, ceX G (aX0_ q U V O) 74 (mX0_ 74)) := rfl
theorem wX0_75 {G : gp_} {q : Nat} {U : Nat → Nat} {V : Nat → Nat → Nat} {O : Nat → Nat} : (hX11_ G q U V O)[95]? = some (aX0_ q U V O 75, ceX G (aX0_ q U V O) 75 (mX0_ 75)) := rfl
theorem wX0_76 {G : gp_} {q : Nat} {U : Nat → Nat} {V : Nat → Nat → Nat} {O : Nat → Nat} : (hX11_ G q U V O)[96]? = some (aX0_ q U V O 76, ceX G (aX0_ q U V O) 76 (mX0_ 76)) := rfl
theorem wX0_77 {G : gp_} {q : Nat} {U : Nat → Nat} {V : Nat → Nat → Nat} {O : Nat → Nat} : (hX11_ G q U V O)[97]? = some (aX0_ q U V O 77, ceX G (aX0_ q U V O) 77 (mX0_ 77)) := rfl
theorem wX0_78 {G : gp_} {q : Nat} {U : Nat → Nat} {V : Nat → Nat → Nat} {O : Nat → Nat} : (hX11_ G q U V O)[98]? = some (aX0_ q U V O 78, ceX G (aX0_ q U V O) 78 (mX0_ 78)) := rfl
theorem wX0_79 {G : gp_} {q : Nat} {U : Nat → Nat} {V : Nat → Nat → Nat} {O : Nat → Nat} : (hX11_ G q U V O)[99]? = some (aX0_ q U V O 79, ceX G (aX0_ q U V O) 79 (mX0_ 79)) := rfl
theorem wX0_80 {G : gp_} {q : Nat} {U : Nat → Nat} {V : Nat → Nat → Nat} {O : Nat → Nat} : (hX11_ G q U V O)[100]? = some (aX0_ q U V O 80, ceX G (aX0_ q U V O) 80 (mX0_ 80)) := rfl
theorem wX0_81 {G : gp_} {q : Nat} {U : Nat → Nat} {V : Nat → Nat → Nat} {O : Nat → Nat} : (hX11_ G q U V O)[101]? = some (aX0_ q U V O 81, ceX G (aX0_ q U V O) 81 (mX0_ 81)) := rfl
theorem wX0_82 {G : gp_} {q : Nat} {U : Nat → Nat} {V : Nat → Nat → Nat} {O : Nat → Nat} : (hX11_ G q U V O)[102]? = some (aX0_ q U V O 82, ceX G (aX0_ q U V O) 82 (mX0_ 82)) := rfl
theorem wX0_83 {G : gp_} {q : Nat} {U : Nat → Nat} {V : Nat → Nat → Nat} {O : Nat → Nat} : (hX11_ G q U V O)[103]? = some (aX0_ q U V O 83, ceX G (aX0_ q U V O) 83 (mX0_ 83)) := rfl
theorem wX0_84 {G : gp_} {q : Nat} {U : Nat → Nat} {V : Nat → Nat → Nat} {O : Nat → Nat} : (hX11_ G q U V O)[104]? = some (aX0_ q U V O 84, ceX G (aX0_ q U V O) 84 (mX0_ 84)) := rfl
theorem wX0_85 {G : gp_} {q : Nat} {U : Nat → Nat} {V : Nat → Nat → Nat} {O : Nat → Nat} : (hX11_ G q U V O)[105]? = some (aX0_ q U V O 85, ceX G (aX0_ q U V O) 85 (mX0_ 85)) := rfl
theorem wX0_86 {G : gp_} {q : Nat} {U : Nat → Nat} {V : Nat → Nat → Nat} {O : Nat → Nat} : (hX11_ G q U V O)[106]? = some (aX0_ q U V O 86, ceX G (aX0_ q U V O) 86 (mX0_ 86)) := rfl
theorem wX0_87 {G : gp_} {q : Nat} {U : Nat → Nat} {V : Nat → Nat → Nat} {O : Nat → Nat} : (hX11_ G q U V O)[107]? = some (aX0_ q U V O 87, ceX G (aX0_ q U V O) 87 (mX0_ 87)) := rfl
theorem wX0_88 {G : gp_} {q : Nat} {U : Nat → Nat} {V : Nat → Nat → Nat} {O : Nat → Nat} : (hX11_ G q U V O)[108]? = some (aX0_ q U V O 88, ceX G (aX0_ q U V O) 88 (mX0_ 88)) := rfl
theorem wX0_89 {G : gp_} {q : Nat} {U : Nat → Nat} {V : Nat → Nat → Nat} {O : Nat → Nat} : (hX11_ G q U V O)[109]? = some (aX0_ q U V O 89, ceX G (aX0_ q U V O) 89 (mX0_ 89)) := rfl
theorem wX0_90 {G : gp_} {q : Nat} {U : Nat → Nat} {V : Nat → Nat → Nat} {O : Nat → Nat} : (hX11_ G q U V O)[110]? = some (aX0_ q U V O 90, ceX G (aX0_ q U V O) 90 (mX0_ 90)) := rfl
theorem wX0_91 {G : gp_} {q : Nat} {U : Nat → Nat} {V : Nat → Nat → Nat} {O : Nat → Nat} : (hX11_ G q U V O)[111]? = some (aX0_ q U V O 91, ceX G (aX0_ q U V O) 91 (mX0_ 91)) := rfl
theorem wX0_92 {G : gp_} {q : Nat} {U : Nat → Nat} {V : Nat → Nat → Nat} {O : Nat → Nat} : (hX11_ G q U V O)[112]? = some (aX0_ q U V O 92, ceX G (aX0_ q U V O) 92 (mX0_ 92)) := rfl
theorem wX0_93 {G : gp_} {q : Nat} {U : Nat → Nat} {V : Nat → Nat → Nat} {O : Nat → Nat} : (hX11_ G q U V O)[113]? = some (aX0_ q U V O 93, ceX G (aX0_ q U V O) 93 (mX0_ 93)) := rfl
theorem wX0_94 {G : gp_} {q : Nat} {U : Nat → Nat} {V : Nat → Nat → Nat} {O : Nat → Nat} : (hX11_ G q U V O)[114]? = some (aX0_ q U V O 94, ceX G (aX0_ q U V O) 94 (mX0_ 94)) := rfl
theorem wX0_95 {G : gp_} {q : Nat} {U : Nat → Nat} {V : Nat → Nat → Nat} {O : Nat → Nat} : (hX11_ G q U V O)[115]? = some (aX0_ q U V O 95, ceX G (aX0_ q U V O) 95 (mX0_ 95)) := rfl
theorem wX0_96 {G : gp_} {q : Nat} {U : Nat → Nat} {V : Nat → Nat → Nat} {O : Nat → Nat} : (hX11_ G q U V O)[116]? = some (aX0_ q U V O 96, ceX G (aX0_ q U V O) 96 (mX0_ 96)) := rfl
theorem wX0_97 {G : gp_} {q : Nat} {U : Nat → Nat} {V : Nat → Nat → Nat} {O : Nat → Nat} : (hX11_ G q U V O)[117]? = some (aX0_ q U V O 97, ceX G (aX0_ q U V O) 97 (mX0_ 97)) := rfl
theorem wX0_98 {G : gp_} {q : Nat} {U : Nat → Nat} {V : Nat → Nat → Nat} {O : Nat → Nat} : (hX11_ G q U V O)[118]? = some (aX0_ q U V O 98, ceX G (aX0_ q U V O) 98 (mX0_ 98)) := rfl
theorem wX0_99 {G : gp_} {q : Nat} {U : Nat → Nat} {V : Nat → Nat → Nat} {O : Nat → Nat} : (hX11_ G q U V O)[119]? = some (aX0_ q U V O 99, ceX G (aX0_ q U V O) 99 (mX0_ 99)) := rfl
theorem wX0_100 {G : gp_} {q : Nat} {U : Nat → Nat} {V : Nat → Nat → Nat} {O : Nat → Nat} : (hX11_ G q U V O)[120]? = some (aX0_ q U V O 100, ceX G (aX0_ q U V O) 100 (mX0_ 100)) := rfl
theorem wX0_101 {G : gp_} {q : Nat} {U : Nat → Nat} {V : Nat → Nat → Nat} {O : Nat → Nat} : (hX11_ G q U V O)[121]? = some (aX0_ q U V O 101, ceX G (aX0_ q U V O) 101 (mX0_ 101)) := rfl
theorem wX0_102 {G : gp_} {q : Nat} {U : Nat → Nat} {V : Nat → Nat → Nat} {O : Nat → Nat} : (hX11_ G q U V O)[122]? = some (aX0_ q U V O 102, ceX G (aX0_ q U V O) 102 (mX0_ 102)) := rfl
theorem wX0_103 {G : gp_} {q : Nat} {U : Nat → Nat} {V : Nat → Nat → Nat} {O : Nat → Nat} : (hX11_ G q U V O)[123]? = some (aX0_ q U V O 103, ceX G (aX0_ q U V O) 103 (mX0_ 103)) := rfl
theorem wX0_104 {G : gp_} {q : Nat} {U : Nat → Nat} {V : Nat → Nat → Nat} {O : Nat → Nat} : (hX11_ G q U V O)[124]? = some (aX0_ q U V O 104, ceX G (aX0_ q U V O) 104 (mX0_ 104)) := rfl
theorem wX0_105 {G : gp_} {q : Nat} {U : Nat → Nat} {V : Nat → Nat → Nat} {O : Nat → Nat} : (hX11_ G q U V O)[125]? = some (aX0_ q U V O 105, ceX G (aX0_ q U V O) 105 (mX0_ 105)) := rfl
theorem wX0_106 {G : gp_} {q : Nat} {U : Nat → Nat} {V : Nat → Nat → Nat} {O : Nat → Nat} : (hX11_ G q U V O)[126]? = some (aX0_ q U V O 106, ceX G (aX0_ q U V O) 106 (mX0_ 106)) := rfl
theorem wX0_107 {G : gp_} {q : Nat} {U : Nat → Nat} {V : Nat → Nat → Nat} {O : Nat → Nat} : (hX11_ G q U V O)[127]? = some (aX0_ q U V O 107, ceX G (aX0_ q U V O) 107 (mX0_ 107)) := rfl
theorem wX0_108 {G : gp_} {q : Nat} {U : Nat → Nat} {V : Nat → Nat → Nat} {O : Nat → Nat} : (hX11_ G q U V O)[128]? = some (aX0_ q U V O 108, ceX G (aX0_ q U V O) 108 (mX0_ 108)) := rfl
theorem wX0_109 {G : gp_} {q : Nat} {U : Nat → Nat} {V : Nat → Nat → Nat} {O : Nat → Nat} : (hX11_ G q U V O)[129]? = some (aX0_ q U V O 109, ceX G (aX0_ q U V O) 109 (mX0_ 109)) := rfl
theorem wX0_110 {G : gp_} {q : Nat} {U : Nat → Nat} {V : Nat → Nat → Nat} {O : Nat → Nat} : (hX11_ G q U V O)[130]? = some (aX0_ q U V O 110, ceX G (aX0_ q U V O) 110 (mX0_ 110)) := rfl
theorem wX0_111 {G : gp_} {q : Nat} {U : Nat → Nat} {V : Nat → Nat → Nat} {O : Nat → Nat} : (hX11_ G q U V O)[131]? = some (aX0_ q U V O 111, ceX G (aX0_ q U V O) 111 (mX0_ 111)) := rfl
theorem wX0_112 {G : gp_} {q : Nat} {U : Nat → Nat} {V : Nat → Nat → Nat} {O : Nat → Nat} : (hX11_ G q U V O)[132]? = some (aX0_ q U V O 112, ceX G (aX0_ q U V O) 112 (mX0_ 112)) := rfl
theorem wX0_113 {G : gp_} {q : Nat} {U : Nat → Nat} {V : Nat → Nat → Nat} {O : Nat → Nat} : (hX11_ G q U V O)[133]? = some (aX0_ q U V O 113, ceX G (aX0_ q U V O) 113 (mX0_ 113)) := rfl
theorem wX0_114 {G : gp_} {q : Nat} {U : Nat → Nat} {V : Nat → Nat → Nat} {O : Nat → Nat} : (hX11_ G q U V O)[134]? = some (aX0_ q U V O 114, ceX G (aX0_ q U V O) 114 (mX0_ 114)) := rfl
theorem wX0_115 {G : gp_} {q : Nat} {U : Nat → Nat} {V : Nat → Nat → Nat} {O : Nat → Nat} : (hX11_ G q U V O)[135]? = some (aX0_ q U V O 115, ceX G (aX0_ q U V O) 115 (mX0_ 115)) := rfl
theorem wX0_116 {G : gp_} {q : Nat} {U : Nat → Nat} {V : Nat → Nat → Nat} {O : Nat → Nat} : (hX11_ G q U V O)[136]? = some (aX0_ q U V O 116, ceX G (aX0_ q U V O) 116 (mX0_ 116)) := rfl
theorem wX0_117 {G : gp_} {q : Nat} {U : Nat → Nat} {V : Nat → Nat → Nat} {O : Nat → Nat} : (hX11_ G q U V O)[137]? = some (aX0_ q U V O 117, ceX G (aX0_ q U V O) 117 (mX0_ 117)) := rfl
theorem wX0_118 {G : gp_} {q : Nat} {U : Nat → Nat} {V : Nat → Nat → Nat} {O : Nat → Nat} : (hX11_ G q U V O)[138]? = some (aX0_ q U V O 118, ceX G (aX0_ q U V O) 118 (mX0_ 118)) := rfl
theorem wX0_119 {G : gp_} {q : Nat} {U : Nat → Nat} {V : Nat → Nat → Nat} {O : Nat → Nat} : (hX11_ G q U V O)[139]? = some (aX0_ q U V O 119, ceX G (aX0_ q U V O) 119 (mX0_ 119)) := rfl
theorem wX0_120 {G : gp_} {q : Nat} {U : Nat → Nat} {V : Nat → Nat → Nat} {O : Nat → Nat} : (hX11_ G q U V O)[20]? = some (aX0_ q U V O 120, ceX G (aX0_ q U V O) 120 (mX0_ 120)) := rfl
theorem wX0_121 {G : gp_} {q : Nat} {U : Nat → Nat} {V : Nat → Nat → Nat} {O : Nat → Nat} : (hX11_ G q U V O)[21]? = some (aX0_ q U V O 121, ceX G (aX0_ q U V O) 121 (mX0_ 121)) := rfl
theorem wX0_122 {G : gp_} {q : Nat} {U : Nat → Nat} {V : Nat → Nat → Nat} {O : Nat → Nat} : (hX11_ G q U V O)[22]? = some (aX0_ q U V O 122, ceX G (aX0_ q U V O) 122 (mX0_ 122)) := rfl
theorem wX0_123 {G : gp_} {q : Nat} {U : Nat → Nat} {V : Nat → Nat → Nat} {O : Nat → Nat} : (hX11_ G q U V O)[23]? = some (aX0_ q U V O 123, ceX G (aX0_ q U V O) 123 (mX0_ 123)) := rfl
theorem wX0_124 {G : gp_} {q : Nat} {U : Nat → Nat} {V : Nat → Nat → Nat} {O : Nat → Nat} : (hX11_ G q U V O)[24]? = some (aX0_ q U V O 124, ceX G (aX0_ q U V O) 124 (mX0_ 124)) := rfl
theorem wX0_125 {G : gp_} {q : Nat} {U : Nat → Nat} {V : Nat → Nat → Nat} {O : Nat → Nat} : (hX11_ G q U V O)[25]? = some (aX0_ q U V O 125, ceX G (aX0_ q U V O) 125 (mX0_ 125)) := rfl
theorem wX0_126 {G : gp_} {q : Nat} {U : Nat → Nat} {V : Nat → Nat → Nat} {O : Nat → Nat} : (hX11_ G q U V O)[26]? = some (aX0_ q U V O 126, ceX G (aX0_ q U V O) 126 (mX0_ 126)) := rfl
theorem wX0_127 {G : gp_} {q : Nat} {U : Nat → Nat} {V : Nat → Nat → Nat} {O : Nat → Nat} : (hX11_ G q U V O)[27]? = some (aX0_ q U V O 127, ceX G (aX0_ q U V O) 127 (mX0_ 127)) := rfl
theorem wX0_128 {G : gp_} {q : Nat} {U : Nat → Nat} {V : Nat → Nat → Nat} {O : Nat → Nat} : (hX11_ G q U V O)[28]? = some (aX0_ q U V O 128, ceX G (aX0_ q U V O) 128 (mX0_ 128)) := rfl
theorem wX0_129 {G : gp_} {q : Nat} {U : Nat → Nat} {V : Nat → Nat → Nat} {O : Nat → Nat} : (hX11_ G q U V O)[29]? = some (aX0_ q U V O 129, ceX G (aX0_ q U V O) 129 (mX0_ 129)) := rfl
theorem wX0_130 {G : gp_} {q : Nat} {U : Nat → Nat} {V : Nat → Nat → Nat} {O : Nat → Nat} : (hX11_ G q U V O)[30]? = some (aX0_ q U V O 130, ceX G (aX0_ q U V O) 130 (mX0_ 130)) := rfl
theorem wX0_131 {G : gp_} {q : Nat} {U : Nat → Nat} {V : Nat → Nat → Nat} {O : Nat → Nat} : (hX11_ G q U V O)[31]? = some (aX0_ q U V O 131, ceX G (aX0_ q U V O) 131 (mX0_ 131)) := rfl
theorem wX0_132 {G : gp_} {q : Nat} {U : Nat → Nat} {V : Nat → Nat → Nat} {O : Nat → Nat} : (hX11_ G q U V O)[0]? = some (aX0_ q U V O 132, ceX G (aX0_ q U V O) 132 (mX0_ 132)) := rfl
theorem wX0_133 {G : gp_} {q : Nat} {U : Nat → Nat} {V : Nat → Nat → Nat} {O : Nat → Nat} : (hX11_ G q U V O)[13]? = some (aX0_ q U V O 133, ceX G (aX0_ q U V O) 133 (mX0_ 133)) := rfl
theorem wX0_134 {G : gp_} {q : Nat} {U : Nat → Nat} {V : Nat → Nat → Nat} {O : Nat → Nat} : (hX11_ G q U V O)[14]? = some (aX0_ q U V O 134, ceX G (aX0_ q U V O) 134 (mX0_ 134)) := rfl
theorem wX0_135 {G : gp_} {q : Nat} {U : Nat → Nat} {V : Nat → Nat → Nat} {O : Nat → Nat} : (hX11_ G q U V O)[15]? = some (aX0_ q U V O 135, ceX G (aX0_ q U V O) 135 (mX0_ 135)) := rfl
theorem wX0_136 {G : gp_} {q : Nat} {U : Nat → Nat} {V : Nat → Nat → Nat} {O : Nat → Nat} : (hX11_ G q U V O)[16]? = some (aX0_ q U V O 136, ceX G (aX0_ q U V O) 136 (mX0_ 136)) := rfl
theorem wX0_137 {G : gp_} {q : Nat} {U : Nat → Nat} {V : Nat → Nat → Nat} {O : Nat → Nat} : (hX11_ G q U V O)[17]? = some (aX0_ q U V O 137, ceX G (aX0_ q U V O) 137 (mX0_ 137)) := rfl
theorem wX0_138 {G : gp_} {q : Nat} {U : Nat → Nat} {V : Nat → Nat → Nat} {O : Nat → Nat} : (hX11_ G q U V O)[18]? = some (aX0_ q U V O 138, ceX G (aX0_ q U V O) 138 (mX0_ 138)) := rfl
theorem wX0_140 {G : gp_} {q : Nat} {U : Nat → Nat} {V : Nat → Nat → Nat} {O : Nat → Nat} : (hX11_ G q U V O)[140]? = some (aX0_ q U V O 140, ceX G (aX0_ q U V O) 140 (mX0_ 140)) := rfl
theorem wX0_141 {G : gp_} {q : Nat} {U : Nat → Nat} {V : Nat → Nat → Nat} {O : Nat → Nat} : (hX11_ G q U V O)[141]? = some (aX0_ q U V O 141, ceX G (aX0_ q U V O) 141 (mX0_ 141)) := rfl
theorem wX0_142 {G : gp_} {q : Nat} {U : Nat → Nat} {V : Nat → Nat → Nat} {O : Nat → Nat} : (hX11_ G q U V O)[142]? = some (aX0_ q U V O 142, ceX G (aX0_ q U V O) 142 (mX0_ 142)) := rfl
theorem wX0_143 {G : gp_} {q : Nat} {U : Nat → Nat} {V : Nat → Nat → Nat} {O : Nat → Nat} : (hX11_ G q U V O)[143]? = some (aX0_ q U V O 143, ceX G (aX0_ q U V O) 143 (mX0_ 143)) := rfl
theorem wX0_144 {G : gp_} {q : Nat} {U : Nat → Nat} {V : Nat → Nat → Nat} {O : Nat → Nat} : (hX11_ G q U V O)[144]? = some (aX0_ q U V O 144, ceX G (aX0_ q U V O) 144 (mX0_ 144)) := rfl
theorem wX0_145 {G : gp_} {q : Nat} {U : Nat → Nat} {V : Nat → Nat → Nat} {O : Nat → Nat} : (hX11_ G q U V O)[145]? = some (aX0_ q U V O 145, ceX G (aX0_ q U V O) 145 (mX0_ 145)) := rfl
theorem wX0_146 {G : gp_} {q : Nat} {U : Nat → Nat} {V : Nat → Nat → Nat} {O : Nat → Nat} : (hX11_ G q U V O)[146]? = some (aX0_ q U V O 146, ceX G (aX0_ q U V O) 146 (mX0_ 146)) := rfl
theorem wX0_147 {G : gp_} {q : Nat} {U : Nat → Nat} {V : Nat → Nat → Nat} {O : Nat → Nat} : (hX11_ G q U V O)[147]? = some (aX0_ q U V O 147, ceX G (aX0_ q U V O) 147 (mX0_ 147)) := rfl
theorem wX0_148 {G : gp_} {q : Nat} {U : Nat → Nat} {V : Nat → Nat → Nat} {O : Nat → Nat} : (hX11_ G q U V O)[148]? = some (aX0_ q U V O 148, ceX G (aX0_ q U V O) 148 (mX0_ 148)) := rfl
theorem wX0_149 {G : gp_} {q : Nat} {U : Nat → Nat} {V : Nat → Nat → Nat} {O : Nat → Nat} : (hX11_ G q U V O)[149]? = some (aX0_ q U V O 149, ceX G (aX0_ q U V O) 149 (mX0_ 149)) := rfl
theorem wX0_150 {G : gp_} {q : Nat} {U : Nat → Nat} {V : Nat → Nat → Nat} {O : Nat → Nat} : (hX11_ G q U V O)[150]? = some (aX0_ q U V O 150, ceX G (aX0_ q U V O) 150 (mX0_ 150)) := rfl
theorem wX0_139 {G : gp_} {q : Nat} {U : Nat → Nat} {V : Nat → Nat → Nat} {O : Nat → Nat} : (hX11_ G q U V O)[19]? = some (aX0_ q U V O 139, .inl (G.1.1 102, 9, .inr (.inr (.inr (.inr (fun j => some (V (j + 1) 0))))))) := rfl
set_option maxRecDepth 100000 in
theorem wX0_all {G : gp_} {q : Nat} {U : Nat → Nat} {V : Nat → Nat → Nat} {O : Nat → Nat} : ∀ k, k < 151 → k ≠ 139 → (hX11_ G q U V O)[sX0_ k]? = some (aX0_ q U V O k, ceX G (aX0_ q U V O) k (mX0_ k)) := fun k hk hn => by
  match k, hk, hn with
  | 0, _, _ => exact wX0_0
  | 1, _, _ => exact wX0_1
  | 2, _, _ => exact wX0_2
  | 3, _, _ => exact wX0_3
  | 4, _, _ => exact wX0_4
  | 5, _, _ => exact wX0_5
  | 6, _, _ => exact wX0_6
  | 7, _, _ => exact wX0_7
  | 8, _, _ => exact wX0_8
  | 9, _, _ => exact wX0_9
  | 10, _, _ => exact wX0_10
  | 11, _, _ => exact wX0_11
  | 12, _, _ => exact wX0_12
  | 13, _, _ => exact wX0_13
  | 14, _, _ => exact wX0_14
  | 15, _, _ => exact wX0_15
  | 16, _, _ => exact wX0_16
  | 17, _, _ => exact wX0_17
  | 18, _, _ => exact wX0_18
  | 19, _, _ => exact wX0_19
  | 20, _, _ => exact wX0_20
  | 21, _, _ => exact wX0_21
  | 22, _, _ => exact wX0_22
  | 23, _, _ => exact wX0_23
  | 24, _, _ => exact wX0_24
  | 25, _, _ => exact wX0_25
  | 26, _, _ => exact wX0_26
  | 27, _, _ => exact wX0_27
  | 28, _, _ => exact wX0_28
  | 29, _, _ => exact wX0_29
  | 30, _, _ => exact wX0_30
  | 31, _, _ => exact wX0_31
  | 32, _, _ => exact wX0_32
  | 33, _, _ => exact wX0_33
  | 34, _, _ => exact wX0_34
  | 35, _, _ => exact wX0_35
  | 36, _, _ => exact wX0_36
  | 37, _, _ => exact wX0_37
  | 38, _, _ => exact wX0_38
  | 39, _, _ => exact wX0_39
  | 40, _, _ => exact wX0_40
  | 41, _, _ => exact wX0_41
  | 42, _, _ => exact wX0_42
  | 43, _, _ => exact wX0_43
  | 44, _, _ => exact wX0_44
  | 45, _, _ => exact wX0_45
  | 46, _, _ => exact wX0_46
  | 47, _, _ => exact wX0_47
  | 48, _, _ => exact wX0_48
  | 49, _, _ => exact wX0_49
  | 50, _, _ => exact wX0_50
  | 51, _, _ => exact wX0_51
  | 52, _, _ => exact wX0_52
  | 53, _, _ => exact wX0_53
  | 54, _, _ => exact wX0_54
  | 55, _, _ => exact wX0_55
  | 56, _, _ => exact wX0_56
  | 57, _, _ => exact wX0_57
  | 58, _, _ => exact wX0_58
  | 59, _, _ => exact wX0_59
  | 60, _, _ => exact wX0_60
  | 61, _, _ => exact wX0_61
  | 62, _, _ => exact wX0_62
  | 63, _, _ => exact wX0_63
  | 64, _, _ => exact wX0_64
  | 65, _, _ => exact wX0_65
  | 66, _, _ => exact wX0_66
  | 67, _, _ => exact wX0_67
  | 68, _, _ => exact wX0_68
  | 69, _, _ => exact wX0_69
  | 70, _, _ => exact wX0_70
  | 71, _, _ => exact wX0_71
  | 72, _, _ => exact wX0_72
  | 73, _, _ => exact wX0_73
  | 74, _, _ => exact wX0_74
  | 75, _, _ => exact wX0_75
  | 76, _, _ => exact wX0_76
  | 77, _, _ => exact wX0_77
  | 78, _, _ => exact wX0_78
  | 79, _, _ => exact wX0_79
  | 80, _, _ => exact wX0_80
  | 81, _, _ => exact wX0_81
  | 82, _, _ => exact wX0_82
  | 83, _, _ => exact wX0_83
  | 84, _, _ => exact wX0_84
  | 85, _, _ => exact wX0_85
  | 86, _, _ => exact wX0_86
  | 87, _, _ => exact wX0_87
  | 88, _, _ => exact wX0_88
  | 89, _, _ => exact wX0_89
  | 90, _, _ => exact wX0_90
  | 91, _, _ => exact wX0_91
  | 92, _, _ => exact wX0_92
  | 93, _, _ => exact wX0_93
  | 94, _, _ => exact wX0_94
  | 95, _, _ => exact wX0_95
  | 96, _, _ => exact wX0_96
  | 97, _, _ => exact wX0_97
  | 98, _, _ => exact wX0_98
  | 99, _, _ => exact wX0_99
  | 100, _, _ => exact wX0_100
  | 101, _, _ => exact wX0_101
  | 102, _, _ => exact wX0_102
  | 103, _, _ => exact wX0_103
  | 104, _, _ => exact wX0_104
  | 105, _, _ => exact wX0_105
  | 106, _, _ => exact wX0_106
  | 107, _, _ => exact wX0_107
  | 108, _, _ => exact wX0_108
  | 109, _, _ => exact wX0_109
  | 110, _, _ => exact wX0_110
  | 111, _, _ => exact wX0_111
  | 112, _, _ => exact wX0_112
  | 113, _, _ => exact wX0_113
  | 114, _, _ => exact wX0_114
  | 115, _, _ => exact wX0_115
  | 116, _, _ => exact wX0_116
  | 117, _, _ => exact wX0_117
  | 118, _, _ => exact wX0_118
  | 119, _, _ => exact wX0_119
  | 120, _, _ => exact wX0_120
  | 121, _, _ => exact wX0_121
  | 122, _, _ => exact wX0_122
  | 123, _, _ => exact wX0_123
  | 124, _, _ => exact wX0_124
  | 125, _, _ => exact wX0_125
  | 126, _, _ => exact wX0_126
  | 127, _, _ => exact wX0_127
  | 128, _, _ => exact wX0_128
  | 129, _, _ => exact wX0_129
  | 130, _, _ => exact wX0_130
  | 131, _, _ => exact wX0_131
  | 132, _, _ => exact wX0_132
  | 133, _, _ => exact wX0_133
  | 134, _, _ => exact wX0_134
  | 135, _, _ => exact wX0_135
  | 136, _, _ => exact wX0_136
  | 137, _, _ => exact wX0_137
  | 138, _, _ => exact wX0_138
  | 139, _, h => exact absurd rfl h
  | 140, _, _ => exact wX0_140
  | 141, _, _ => exact wX0_141
  | 142, _, _ => exact wX0_142
  | 143, _, _ => exact wX0_143
  | 144, _, _ => exact wX0_144
  | 145, _, _ => exact wX0_145
  | 146, _, _ => exact wX0_146
  | 147, _, _ => exact wX0_147
  | 148, _, _ => exact wX0_148
  | 149, _, _ => exact wX0_149
  | 150, _, _ => exact wX0_150
  | n + 151, h, _ => exact absurd h (by omega)
theorem wX0_ok {G : gp_} {q : Nat} {U : Nat → Nat} {V : Nat → Nat → Nat} {O : Nat → Nat} : (∀ H, va_P G.1 vwCl (hX11_ G q U V O) H → va_P G.1 vwCl (wl_ 151 (aX0_ q U V O) (ceX G (aX0_ q U V O)) mX0_) H) ∧ ∀ A, va_D A (hX11_ G q U V O) → va_D A (wl_ 151 (aX0_ q U V O) (ceX G (aX0_ q U V O)) mX0_) := by
  have hlt : ∀ (k : Nat) (x : Nat × va_E), (wl_ 151 (aX0_ q U V O) (ceX G (aX0_ q U V O)) mX0_)[k]? = some x → k < 151 := fun k x hx => by
    rcases Nat.lt_or_ge k 151 with z | z
    · exact z
    · rw [List.getElem?_eq_none (by unfold wl_; rw [List.length_map, List.length_range]; omega)] at hx; cases hx
  have hpas : ∀ H, va_P G.1 vwCl (hX11_ G q U V O) H → va_at G.1 vwCl (aX0_ q U V O 139, ceX G (aX0_ q U V O) 139 (mX0_ 139)) H := fun H hP => by
    have h1 := hP 19 _ wX0_139
    rw [ceX_139]
    show H[aX0_ q U V O 139]? = some (vp_cell _ _)
    have h2 : H[aX0_ q U V O 139]? = some (vp_cell (G.1.1 102) (9, .inr (.inr (.inr (.inr (fun j => some (V (j + 1) 0))))))) := h1
    rw [h2, vp_cell_q, vp_cell_q]
    unfold arrV
    rw [show (fun j : Fin 9 => va_rf (some (V (j.val + 1) 0))) = fun j : Fin 9 => va_rf (some (aX0_ q U V O (12 * (j.val + 1)))) from funext fun j => by
      match j with
      | ⟨0, _⟩ => rfl
      | ⟨1, _⟩ => rfl
      | ⟨2, _⟩ => rfl
      | ⟨3, _⟩ => rfl
      | ⟨4, _⟩ => rfl
      | ⟨5, _⟩ => rfl
      | ⟨6, _⟩ => rfl
      | ⟨7, _⟩ => rfl
      | ⟨8, _⟩ => rfl
      | ⟨n + 9, h⟩ => exact absurd h (by omega)]
  have hix : ∀ (k : Nat) (x : Nat × va_E), (wl_ 151 (aX0_ q U V O) (ceX G (aX0_ q U V O)) mX0_)[k]? = some x → ∃ y, (hX11_ G q U V O)[sX0_ k]? = some y ∧ y.1 = x.1 := fun k x hx => by
    have hk := hlt k x hx
    rw [wl_get hk] at hx
    obtain rfl := Option.some.inj hx
    by_cases h9 : k = 139
    · subst h9
      exact ⟨_, wX0_139, rfl⟩
    · exact ⟨_, wX0_all k hk h9, rfl⟩
  refine ⟨fun H hP k x hx => ?_, fun A hD => ⟨fun i j x y hx hy hxy => ?_, fun k x hx => ?_⟩⟩
  · have hk := hlt k x hx
    rw [wl_get hk] at hx
    obtain rfl := Option.some.inj hx
    by_cases h9 : k = 139
    · subst h9
      exact hpas H hP
    · exact hP _ _ (wX0_all k hk h9)
  · obtain ⟨x1, hx1, ex⟩ := hix i x hx
    obtain ⟨y1, hy1, ey⟩ := hix j y hy
    exact sX0_inj i j (hlt i x hx) (hlt j y hy) (hD.1 _ _ _ _ hx1 hy1 (by rw [ex, ey, hxy]))
  · obtain ⟨x1, hx1, ex⟩ := hix k x hx
    rw [← ex]
    exact hD.2 _ _ hx1
theorem am_id (ad : Nat → Nat) : am_ ad (ad 142) (ad 150) = ad := by
  funext k
  unfold am_
  by_cases h1 : k = 142
  · subst h1
    rfl
  · rw [beq9 h1]
    by_cases h2 : k = 150
    · subst h2
      rfl
    · rw [beq9 h2]
      rfl
