/-! the program: its cells, its pure functions, their contracts (written by wip/gen/xgen.py) -/
def ceH (G : gp_) (ad : Nat → Nat) (i j : Nat) (row : Int → Int) : va_E := match j with
  | 0 => .inr (3, [.ref (ad (12 * i + 1)), .ref (ad (12 * i + 2)), .ref (ad (12 * i + 3)), .ref (ad (12 * i + 4)), .ref (ad (12 * i + 5)), .ref (ad (12 * i + 6)), .ref (ad (12 * i + 7)), .ref (ad (12 * i + 8)), .ref (ad (12 * i + 10)), .int (iI (row 9)), .int (iI (row 10)), .int (iI (row 11)), .int (iI (row 12)), .int (iI (row 13)), .int (iI (row 14)), .int (iI (row 15)), .int (iI (row 16))])
  | 1 => .inl (G.1.1 100, 96, .inl (fun j => iI (row (j : Nat))))
  | 2 => .inl (G.1.1 100, 24, .inl (fun j => iI (row (j : Nat))))
  | 3 => .inl (G.1.1 100, 24, .inl (fun j => iI (row (j : Nat))))
  | 4 => .inl (G.1.1 100, 24, .inl (fun j => iI (row (j : Nat))))
  | 5 => .inl (G.1.1 100, 24, .inl (fun j => iI (row (j : Nat))))
  | 6 => .inl (G.1.1 100, 6, .inl (fun j => iI (row (j : Nat))))
  | 7 => .inl (G.1.1 100, 12, .inl (fun j => iI (row (j : Nat))))
  | 8 => .inr (9, [.ref (ad (12 * i + 9)), .int (iI (row 1))])
  | 9 => .inl (G.1.1 100, 24, .inl (fun j => iI (row (j : Nat))))
  | 10 => .inr (9, [.ref (ad (12 * i + 11)), .int (iI (row 1))])
  | _ => .inl (G.1.1 100, 24, .inl (fun j => iI (row (j : Nat))))
def ceO (G : gp_) (ad : Nat → Nat) (j : Nat) (row : Int → Int) : va_E := match j with
  | 0 => .inr (11, [.ref (ad 0), .ref (ad 133), .ref (ad 134), .ref (ad 135), .ref (ad 136), .ref (ad 138), .ref (ad 140), .ref (ad 148)])
  | 1 => .inr (8, [.int (iI (row 0)), .int (iI (row 1))])
  | 2 => .inr (2, [.ref (ad 0), .ref (ad 133)])
  | 3 => .inr (10, [.ref (ad 0), .ref (ad 133)])
  | 4 => .inr (7, [.ref (ad 0), .ref (ad 137)])
  | 5 => .inl (G.1.1 100, 24, .inl (fun j => iI (row (j : Nat))))
  | 6 => .inr (4, [.ref (ad 0), .ref (ad 139), .ref (ad 120), .int (iI (row 3)), .int (iI (row 4)), .int (iI (row 5))])
  | 7 => .inl (G.1.1 102, 9, .inr (.inr (.inr (.inr (fun j => some (ad (12 * (j + 1))))))))
  | 8 => .inr (6, [.ref (ad 141), .ref (ad 143), .ref (ad 144), .ref (ad 145), .ref (ad 146), .int (iI (row 5)), .ref (ad 147), .int (iI (row 7))])
  | 9 => .inr (1, [.ref (ad 142), .int (iI (row 1)), .int (iI (row 2)), .int (iI (row 3))])
  | 10 => .inl (G.1.1 101, (row (-1)).toNat, .inl (fun j => iI (row (j : Nat))))
  | 11 => .inl (G.1.1 103, 60, .inr (.inr (.inr (.inr (fun j => kv_ G (row (j : Nat)))))))
  | 12 => .inl (G.1.1 100, 60, .inl (fun j => iI (row (j : Nat))))
  | 13 => .inl (G.1.1 100, 60, .inl (fun j => iI (row (j : Nat))))
  | 14 => .inl (G.1.1 100, 60, .inl (fun j => iI (row (j : Nat))))
  | 15 => .inl (G.1.1 100, 3, .inl (fun j => iI (row (j : Nat))))
  | 16 => .inr (5, [.ref (ad 149)])
  | 17 => .inr (1, [.ref (ad 150), .int (iI (row 1)), .int (iI (row 2)), .int (iI (row 3))])
  | _ => .inl (G.1.1 101, (row (-1)).toNat, .inl (fun j => iI (row (j : Nat))))
def ceX (G : gp_) (ad : Nat → Nat) (k : Nat) (row : Int → Int) : va_E := if k < 132 then ceH G ad (k / 12) (k % 12) row else ceO G ad (k - 132) row
theorem ceXh_0 (G : gp_) (ad : Nat → Nat) (row : Int → Int) (i : Nat) (hi : i < 11) : ceX G ad (12 * i + 0) row = .inr (3, [.ref (ad (12 * i + 1)), .ref (ad (12 * i + 2)), .ref (ad (12 * i + 3)), .ref (ad (12 * i + 4)), .ref (ad (12 * i + 5)), .ref (ad (12 * i + 6)), .ref (ad (12 * i + 7)), .ref (ad (12 * i + 8)), .ref (ad (12 * i + 10)), .int (iI (row 9)), .int (iI (row 10)), .int (iI (row 11)), .int (iI (row 12)), .int (iI (row 13)), .int (iI (row 14)), .int (iI (row 15)), .int (iI (row 16))]) := by
  unfold ceX
  rw [if_pos (by omega), show (12 * i + 0) / 12 = i by omega, show (12 * i + 0) % 12 = 0 by omega]
  rfl
theorem ceXh_1 (G : gp_) (ad : Nat → Nat) (row : Int → Int) (i : Nat) (hi : i < 11) : ceX G ad (12 * i + 1) row = .inl (G.1.1 100, 96, .inl (fun j => iI (row (j : Nat)))) := by
  unfold ceX
  rw [if_pos (by omega), show (12 * i + 1) / 12 = i by omega, show (12 * i + 1) % 12 = 1 by omega]
  rfl
theorem ceXh_2 (G : gp_) (ad : Nat → Nat) (row : Int → Int) (i : Nat) (hi : i < 11) : ceX G ad (12 * i + 2) row = .inl (G.1.1 100, 24, .inl (fun j => iI (row (j : Nat)))) := by
  unfold ceX
  rw [if_pos (by omega), show (12 * i + 2) / 12 = i by omega, show (12 * i + 2) % 12 = 2 by omega]
  rfl
theorem ceXh_3 (G : gp_) (ad : Nat → Nat) (row : Int → Int) (i : Nat) (hi : i < 11) : ceX G ad (12 * i + 3) row = .inl (G.1.1 100, 24, .inl (fun j => iI (row (j : Nat)))) := by
  unfold ceX
  rw [if_pos (by omega), show (12 * i + 3) / 12 = i by omega, show (12 * i + 3) % 12 = 3 by omega]
  rfl
theorem ceXh_4 (G : gp_) (ad : Nat → Nat) (row : Int → Int) (i : Nat) (hi : i < 11) : ceX G ad (12 * i + 4) row = .inl (G.1.1 100, 24, .inl (fun j => iI (row (j : Nat)))) := by
  unfold ceX
  rw [if_pos (by omega), show (12 * i + 4) / 12 = i by omega, show (12 * i + 4) % 12 = 4 by omega]
  rfl
theorem ceXh_5 (G : gp_) (ad : Nat → Nat) (row : Int → Int) (i : Nat) (hi : i < 11) : ceX G ad (12 * i + 5) row = .inl (G.1.1 100, 24, .inl (fun j => iI (row (j : Nat)))) := by
  unfold ceX
  rw [if_pos (by omega), show (12 * i + 5) / 12 = i by omega, show (12 * i + 5) % 12 = 5 by omega]
  rfl
theorem ceXh_6 (G : gp_) (ad : Nat → Nat) (row : Int → Int) (i : Nat) (hi : i < 11) : ceX G ad (12 * i + 6) row = .inl (G.1.1 100, 6, .inl (fun j => iI (row (j : Nat)))) := by
  unfold ceX
  rw [if_pos (by omega), show (12 * i + 6) / 12 = i by omega, show (12 * i + 6) % 12 = 6 by omega]
  rfl
theorem ceXh_7 (G : gp_) (ad : Nat → Nat) (row : Int → Int) (i : Nat) (hi : i < 11) : ceX G ad (12 * i + 7) row = .inl (G.1.1 100, 12, .inl (fun j => iI (row (j : Nat)))) := by
  unfold ceX
  rw [if_pos (by omega), show (12 * i + 7) / 12 = i by omega, show (12 * i + 7) % 12 = 7 by omega]
  rfl
theorem ceXh_8 (G : gp_) (ad : Nat → Nat) (row : Int → Int) (i : Nat) (hi : i < 11) : ceX G ad (12 * i + 8) row = .inr (9, [.ref (ad (12 * i + 9)), .int (iI (row 1))]) := by
  unfold ceX
  rw [if_pos (by omega), show (12 * i + 8) / 12 = i by omega, show (12 * i + 8) % 12 = 8 by omega]
  rfl
theorem ceXh_9 (G : gp_) (ad : Nat → Nat) (row : Int → Int) (i : Nat) (hi : i < 11) : ceX G ad (12 * i + 9) row = .inl (G.1.1 100, 24, .inl (fun j => iI (row (j : Nat)))) := by
  unfold ceX
  rw [if_pos (by omega), show (12 * i + 9) / 12 = i by omega, show (12 * i + 9) % 12 = 9 by omega]
  rfl
theorem ceXh_10 (G : gp_) (ad : Nat → Nat) (row : Int → Int) (i : Nat) (hi : i < 11) : ceX G ad (12 * i + 10) row = .inr (9, [.ref (ad (12 * i + 11)), .int (iI (row 1))]) := by
  unfold ceX
  rw [if_pos (by omega), show (12 * i + 10) / 12 = i by omega, show (12 * i + 10) % 12 = 10 by omega]
  rfl
theorem ceXh_11 (G : gp_) (ad : Nat → Nat) (row : Int → Int) (i : Nat) (hi : i < 11) : ceX G ad (12 * i + 11) row = .inl (G.1.1 100, 24, .inl (fun j => iI (row (j : Nat)))) := by
  unfold ceX
  rw [if_pos (by omega), show (12 * i + 11) / 12 = i by omega, show (12 * i + 11) % 12 = 11 by omega]
  rfl
theorem ceX_0 (G : gp_) (ad : Nat → Nat) (row : Int → Int) : ceX G ad 0 row = .inr (3, [.ref (ad 1), .ref (ad 2), .ref (ad 3), .ref (ad 4), .ref (ad 5), .ref (ad 6), .ref (ad 7), .ref (ad 8), .ref (ad 10), .int (iI (row 9)), .int (iI (row 10)), .int (iI (row 11)), .int (iI (row 12)), .int (iI (row 13)), .int (iI (row 14)), .int (iI (row 15)), .int (iI (row 16))]) := rfl
theorem ceX_1 (G : gp_) (ad : Nat → Nat) (row : Int → Int) : ceX G ad 1 row = .inl (G.1.1 100, 96, .inl (fun j => iI (row (j : Nat)))) := rfl
theorem ceX_2 (G : gp_) (ad : Nat → Nat) (row : Int → Int) : ceX G ad 2 row = .inl (G.1.1 100, 24, .inl (fun j => iI (row (j : Nat)))) := rfl
theorem ceX_3 (G : gp_) (ad : Nat → Nat) (row : Int → Int) : ceX G ad 3 row = .inl (G.1.1 100, 24, .inl (fun j => iI (row (j : Nat)))) := rfl
theorem ceX_4 (G : gp_) (ad : Nat → Nat) (row : Int → Int) : ceX G ad 4 row = .inl (G.1.1 100, 24, .inl (fun j => iI (row (j : Nat)))) := rfl
theorem ceX_5 (G : gp_) (ad : Nat → Nat) (row : Int → Int) : ceX G ad 5 row = .inl (G.1.1 100, 24, .inl (fun j => iI (row (j : Nat)))) := rfl
theorem ceX_6 (G : gp_) (ad : Nat → Nat) (row : Int → Int) : ceX G ad 6 row = .inl (G.1.1 100, 6, .inl (fun j => iI (row (j : Nat)))) := rfl
theorem ceX_7 (G : gp_) (ad : Nat → Nat) (row : Int → Int) : ceX G ad 7 row = .inl (G.1.1 100, 12, .inl (fun j => iI (row (j : Nat)))) := rfl
theorem ceX_8 (G : gp_) (ad : Nat → Nat) (row : Int → Int) : ceX G ad 8 row = .inr (9, [.ref (ad 9), .int (iI (row 1))]) := rfl
theorem ceX_9 (G : gp_) (ad : Nat → Nat) (row : Int → Int) : ceX G ad 9 row = .inl (G.1.1 100, 24, .inl (fun j => iI (row (j : Nat)))) := rfl
theorem ceX_10 (G : gp_) (ad : Nat → Nat) (row : Int → Int) : ceX G ad 10 row = .inr (9, [.ref (ad 11), .int (iI (row 1))]) := rfl
theorem ceX_11 (G : gp_) (ad : Nat → Nat) (row : Int → Int) : ceX G ad 11 row = .inl (G.1.1 100, 24, .inl (fun j => iI (row (j : Nat)))) := rfl
theorem ceX_120 (G : gp_) (ad : Nat → Nat) (row : Int → Int) : ceX G ad 120 row = .inr (3, [.ref (ad 121), .ref (ad 122), .ref (ad 123), .ref (ad 124), .ref (ad 125), .ref (ad 126), .ref (ad 127), .ref (ad 128), .ref (ad 130), .int (iI (row 9)), .int (iI (row 10)), .int (iI (row 11)), .int (iI (row 12)), .int (iI (row 13)), .int (iI (row 14)), .int (iI (row 15)), .int (iI (row 16))]) := rfl
theorem ceX_121 (G : gp_) (ad : Nat → Nat) (row : Int → Int) : ceX G ad 121 row = .inl (G.1.1 100, 96, .inl (fun j => iI (row (j : Nat)))) := rfl
theorem ceX_122 (G : gp_) (ad : Nat → Nat) (row : Int → Int) : ceX G ad 122 row = .inl (G.1.1 100, 24, .inl (fun j => iI (row (j : Nat)))) := rfl
theorem ceX_123 (G : gp_) (ad : Nat → Nat) (row : Int → Int) : ceX G ad 123 row = .inl (G.1.1 100, 24, .inl (fun j => iI (row (j : Nat)))) := rfl
theorem ceX_124 (G : gp_) (ad : Nat → Nat) (row : Int → Int) : ceX G ad 124 row = .inl (G.1.1 100, 24, .inl (fun j => iI (row (j : Nat)))) := rfl
theorem ceX_125 (G : gp_) (ad : Nat → Nat) (row : Int → Int) : ceX G ad 125 row = .inl (G.1.1 100, 24, .inl (fun j => iI (row (j : Nat)))) := rfl
theorem ceX_126 (G : gp_) (ad : Nat → Nat) (row : Int → Int) : ceX G ad 126 row = .inl (G.1.1 100, 6, .inl (fun j => iI (row (j : Nat)))) := rfl
theorem ceX_127 (G : gp_) (ad : Nat → Nat) (row : Int → Int) : ceX G ad 127 row = .inl (G.1.1 100, 12, .inl (fun j => iI (row (j : Nat)))) := rfl
theorem ceX_128 (G : gp_) (ad : Nat → Nat) (row : Int → Int) : ceX G ad 128 row = .inr (9, [.ref (ad 129), .int (iI (row 1))]) := rfl
theorem ceX_129 (G : gp_) (ad : Nat → Nat) (row : Int → Int) : ceX G ad 129 row = .inl (G.1.1 100, 24, .inl (fun j => iI (row (j : Nat)))) := rfl
theorem ceX_130 (G : gp_) (ad : Nat → Nat) (row : Int → Int) : ceX G ad 130 row = .inr (9, [.ref (ad 131), .int (iI (row 1))]) := rfl
theorem ceX_131 (G : gp_) (ad : Nat → Nat) (row : Int → Int) : ceX G ad 131 row = .inl (G.1.1 100, 24, .inl (fun j => iI (row (j : Nat)))) := rfl
theorem ceX_132 (G : gp_) (ad : Nat → Nat) (row : Int → Int) : ceX G ad 132 row = .inr (11, [.ref (ad 0), .ref (ad 133), .ref (ad 134), .ref (ad 135), .ref (ad 136), .ref (ad 138), .ref (ad 140), .ref (ad 148)]) := rfl
theorem ceX_133 (G : gp_) (ad : Nat → Nat) (row : Int → Int) : ceX G ad 133 row = .inr (8, [.int (iI (row 0)), .int (iI (row 1))]) := rfl
theorem ceX_134 (G : gp_) (ad : Nat → Nat) (row : Int → Int) : ceX G ad 134 row = .inr (2, [.ref (ad 0), .ref (ad 133)]) := rfl
theorem ceX_135 (G : gp_) (ad : Nat → Nat) (row : Int → Int) : ceX G ad 135 row = .inr (10, [.ref (ad 0), .ref (ad 133)]) := rfl
theorem ceX_136 (G : gp_) (ad : Nat → Nat) (row : Int → Int) : ceX G ad 136 row = .inr (7, [.ref (ad 0), .ref (ad 137)]) := rfl
theorem ceX_137 (G : gp_) (ad : Nat → Nat) (row : Int → Int) : ceX G ad 137 row = .inl (G.1.1 100, 24, .inl (fun j => iI (row (j : Nat)))) := rfl
theorem ceX_138 (G : gp_) (ad : Nat → Nat) (row : Int → Int) : ceX G ad 138 row = .inr (4, [.ref (ad 0), .ref (ad 139), .ref (ad 120), .int (iI (row 3)), .int (iI (row 4)), .int (iI (row 5))]) := rfl
theorem ceX_139 (G : gp_) (ad : Nat → Nat) (row : Int → Int) : ceX G ad 139 row = .inl (G.1.1 102, 9, .inr (.inr (.inr (.inr (fun j => some (ad (12 * (j + 1)))))))) := rfl
theorem ceX_140 (G : gp_) (ad : Nat → Nat) (row : Int → Int) : ceX G ad 140 row = .inr (6, [.ref (ad 141), .ref (ad 143), .ref (ad 144), .ref (ad 145), .ref (ad 146), .int (iI (row 5)), .ref (ad 147), .int (iI (row 7))]) := rfl
theorem ceX_141 (G : gp_) (ad : Nat → Nat) (row : Int → Int) : ceX G ad 141 row = .inr (1, [.ref (ad 142), .int (iI (row 1)), .int (iI (row 2)), .int (iI (row 3))]) := rfl
theorem ceX_142 (G : gp_) (ad : Nat → Nat) (row : Int → Int) : ceX G ad 142 row = .inl (G.1.1 101, (row (-1)).toNat, .inl (fun j => iI (row (j : Nat)))) := rfl
theorem ceX_143 (G : gp_) (ad : Nat → Nat) (row : Int → Int) : ceX G ad 143 row = .inl (G.1.1 103, 60, .inr (.inr (.inr (.inr (fun j => kv_ G (row (j : Nat))))))) := rfl
theorem ceX_144 (G : gp_) (ad : Nat → Nat) (row : Int → Int) : ceX G ad 144 row = .inl (G.1.1 100, 60, .inl (fun j => iI (row (j : Nat)))) := rfl
theorem ceX_145 (G : gp_) (ad : Nat → Nat) (row : Int → Int) : ceX G ad 145 row = .inl (G.1.1 100, 60, .inl (fun j => iI (row (j : Nat)))) := rfl
theorem ceX_146 (G : gp_) (ad : Nat → Nat) (row : Int → Int) : ceX G ad 146 row = .inl (G.1.1 100, 60, .inl (fun j => iI (row (j : Nat)))) := rfl
theorem ceX_147 (G : gp_) (ad : Nat → Nat) (row : Int → Int) : ceX G ad 147 row = .inl (G.1.1 100, 3, .inl (fun j => iI (row (j : Nat)))) := rfl
theorem ceX_148 (G : gp_) (ad : Nat → Nat) (row : Int → Int) : ceX G ad 148 row = .inr (5, [.ref (ad 149)]) := rfl
theorem ceX_149 (G : gp_) (ad : Nat → Nat) (row : Int → Int) : ceX G ad 149 row = .inr (1, [.ref (ad 150), .int (iI (row 1)), .int (iI (row 2)), .int (iI (row 3))]) := rfl
theorem ceX_150 (G : gp_) (ad : Nat → Nat) (row : Int → Int) : ceX G ad 150 row = .inl (G.1.1 101, (row (-1)).toNat, .inl (fun j => iI (row (j : Nat)))) := rfl
theorem puX_0_9 (G : gp_) (ad : Nat → Nat) (row : Int → Int) (v : Int) : ceX G ad 0 (ur_ row 9 v) = .inr (3, ([.ref (ad 1), .ref (ad 2), .ref (ad 3), .ref (ad 4), .ref (ad 5), .ref (ad 6), .ref (ad 7), .ref (ad 8), .ref (ad 10), .int (iI (row 9)), .int (iI (row 10)), .int (iI (row 11)), .int (iI (row 12)), .int (iI (row 13)), .int (iI (row 14)), .int (iI (row 15)), .int (iI (row 16))] : List Value).set 9 (.int (iI v))) := rfl
theorem puX_0_10 (G : gp_) (ad : Nat → Nat) (row : Int → Int) (v : Int) : ceX G ad 0 (ur_ row 10 v) = .inr (3, ([.ref (ad 1), .ref (ad 2), .ref (ad 3), .ref (ad 4), .ref (ad 5), .ref (ad 6), .ref (ad 7), .ref (ad 8), .ref (ad 10), .int (iI (row 9)), .int (iI (row 10)), .int (iI (row 11)), .int (iI (row 12)), .int (iI (row 13)), .int (iI (row 14)), .int (iI (row 15)), .int (iI (row 16))] : List Value).set 10 (.int (iI v))) := rfl
theorem puX_0_11 (G : gp_) (ad : Nat → Nat) (row : Int → Int) (v : Int) : ceX G ad 0 (ur_ row 11 v) = .inr (3, ([.ref (ad 1), .ref (ad 2), .ref (ad 3), .ref (ad 4), .ref (ad 5), .ref (ad 6), .ref (ad 7), .ref (ad 8), .ref (ad 10), .int (iI (row 9)), .int (iI (row 10)), .int (iI (row 11)), .int (iI (row 12)), .int (iI (row 13)), .int (iI (row 14)), .int (iI (row 15)), .int (iI (row 16))] : List Value).set 11 (.int (iI v))) := rfl
theorem puX_0_12 (G : gp_) (ad : Nat → Nat) (row : Int → Int) (v : Int) : ceX G ad 0 (ur_ row 12 v) = .inr (3, ([.ref (ad 1), .ref (ad 2), .ref (ad 3), .ref (ad 4), .ref (ad 5), .ref (ad 6), .ref (ad 7), .ref (ad 8), .ref (ad 10), .int (iI (row 9)), .int (iI (row 10)), .int (iI (row 11)), .int (iI (row 12)), .int (iI (row 13)), .int (iI (row 14)), .int (iI (row 15)), .int (iI (row 16))] : List Value).set 12 (.int (iI v))) := rfl
theorem puX_0_13 (G : gp_) (ad : Nat → Nat) (row : Int → Int) (v : Int) : ceX G ad 0 (ur_ row 13 v) = .inr (3, ([.ref (ad 1), .ref (ad 2), .ref (ad 3), .ref (ad 4), .ref (ad 5), .ref (ad 6), .ref (ad 7), .ref (ad 8), .ref (ad 10), .int (iI (row 9)), .int (iI (row 10)), .int (iI (row 11)), .int (iI (row 12)), .int (iI (row 13)), .int (iI (row 14)), .int (iI (row 15)), .int (iI (row 16))] : List Value).set 13 (.int (iI v))) := rfl
theorem puX_0_14 (G : gp_) (ad : Nat → Nat) (row : Int → Int) (v : Int) : ceX G ad 0 (ur_ row 14 v) = .inr (3, ([.ref (ad 1), .ref (ad 2), .ref (ad 3), .ref (ad 4), .ref (ad 5), .ref (ad 6), .ref (ad 7), .ref (ad 8), .ref (ad 10), .int (iI (row 9)), .int (iI (row 10)), .int (iI (row 11)), .int (iI (row 12)), .int (iI (row 13)), .int (iI (row 14)), .int (iI (row 15)), .int (iI (row 16))] : List Value).set 14 (.int (iI v))) := rfl
theorem puX_0_15 (G : gp_) (ad : Nat → Nat) (row : Int → Int) (v : Int) : ceX G ad 0 (ur_ row 15 v) = .inr (3, ([.ref (ad 1), .ref (ad 2), .ref (ad 3), .ref (ad 4), .ref (ad 5), .ref (ad 6), .ref (ad 7), .ref (ad 8), .ref (ad 10), .int (iI (row 9)), .int (iI (row 10)), .int (iI (row 11)), .int (iI (row 12)), .int (iI (row 13)), .int (iI (row 14)), .int (iI (row 15)), .int (iI (row 16))] : List Value).set 15 (.int (iI v))) := rfl
theorem puX_0_16 (G : gp_) (ad : Nat → Nat) (row : Int → Int) (v : Int) : ceX G ad 0 (ur_ row 16 v) = .inr (3, ([.ref (ad 1), .ref (ad 2), .ref (ad 3), .ref (ad 4), .ref (ad 5), .ref (ad 6), .ref (ad 7), .ref (ad 8), .ref (ad 10), .int (iI (row 9)), .int (iI (row 10)), .int (iI (row 11)), .int (iI (row 12)), .int (iI (row 13)), .int (iI (row 14)), .int (iI (row 15)), .int (iI (row 16))] : List Value).set 16 (.int (iI v))) := rfl
theorem puX_8_1 (G : gp_) (ad : Nat → Nat) (row : Int → Int) (v : Int) : ceX G ad 8 (ur_ row 1 v) = .inr (9, ([.ref (ad 9), .int (iI (row 1))] : List Value).set 1 (.int (iI v))) := rfl
theorem puX_10_1 (G : gp_) (ad : Nat → Nat) (row : Int → Int) (v : Int) : ceX G ad 10 (ur_ row 1 v) = .inr (9, ([.ref (ad 11), .int (iI (row 1))] : List Value).set 1 (.int (iI v))) := rfl
theorem puX_133_0 (G : gp_) (ad : Nat → Nat) (row : Int → Int) (v : Int) : ceX G ad 133 (ur_ row 0 v) = .inr (8, ([.int (iI (row 0)), .int (iI (row 1))] : List Value).set 0 (.int (iI v))) := rfl
theorem puX_133_1 (G : gp_) (ad : Nat → Nat) (row : Int → Int) (v : Int) : ceX G ad 133 (ur_ row 1 v) = .inr (8, ([.int (iI (row 0)), .int (iI (row 1))] : List Value).set 1 (.int (iI v))) := rfl
theorem puX_138_3 (G : gp_) (ad : Nat → Nat) (row : Int → Int) (v : Int) : ceX G ad 138 (ur_ row 3 v) = .inr (4, ([.ref (ad 0), .ref (ad 139), .ref (ad 120), .int (iI (row 3)), .int (iI (row 4)), .int (iI (row 5))] : List Value).set 3 (.int (iI v))) := rfl
theorem puX_138_4 (G : gp_) (ad : Nat → Nat) (row : Int → Int) (v : Int) : ceX G ad 138 (ur_ row 4 v) = .inr (4, ([.ref (ad 0), .ref (ad 139), .ref (ad 120), .int (iI (row 3)), .int (iI (row 4)), .int (iI (row 5))] : List Value).set 4 (.int (iI v))) := rfl
theorem puX_138_5 (G : gp_) (ad : Nat → Nat) (row : Int → Int) (v : Int) : ceX G ad 138 (ur_ row 5 v) = .inr (4, ([.ref (ad 0), .ref (ad 139), .ref (ad 120), .int (iI (row 3)), .int (iI (row 4)), .int (iI (row 5))] : List Value).set 5 (.int (iI v))) := rfl
theorem puX_140_5 (G : gp_) (ad : Nat → Nat) (row : Int → Int) (v : Int) : ceX G ad 140 (ur_ row 5 v) = .inr (6, ([.ref (ad 141), .ref (ad 143), .ref (ad 144), .ref (ad 145), .ref (ad 146), .int (iI (row 5)), .ref (ad 147), .int (iI (row 7))] : List Value).set 5 (.int (iI v))) := rfl
theorem puX_140_7 (G : gp_) (ad : Nat → Nat) (row : Int → Int) (v : Int) : ceX G ad 140 (ur_ row 7 v) = .inr (6, ([.ref (ad 141), .ref (ad 143), .ref (ad 144), .ref (ad 145), .ref (ad 146), .int (iI (row 5)), .ref (ad 147), .int (iI (row 7))] : List Value).set 7 (.int (iI v))) := rfl
theorem puX_141_1 (G : gp_) (ad : Nat → Nat) (row : Int → Int) (v : Int) : ceX G ad 141 (ur_ row 1 v) = .inr (1, ([.ref (ad 142), .int (iI (row 1)), .int (iI (row 2)), .int (iI (row 3))] : List Value).set 1 (.int (iI v))) := rfl
theorem puX_141_2 (G : gp_) (ad : Nat → Nat) (row : Int → Int) (v : Int) : ceX G ad 141 (ur_ row 2 v) = .inr (1, ([.ref (ad 142), .int (iI (row 1)), .int (iI (row 2)), .int (iI (row 3))] : List Value).set 2 (.int (iI v))) := rfl
theorem puX_141_3 (G : gp_) (ad : Nat → Nat) (row : Int → Int) (v : Int) : ceX G ad 141 (ur_ row 3 v) = .inr (1, ([.ref (ad 142), .int (iI (row 1)), .int (iI (row 2)), .int (iI (row 3))] : List Value).set 3 (.int (iI v))) := rfl
theorem puX_149_1 (G : gp_) (ad : Nat → Nat) (row : Int → Int) (v : Int) : ceX G ad 149 (ur_ row 1 v) = .inr (1, ([.ref (ad 150), .int (iI (row 1)), .int (iI (row 2)), .int (iI (row 3))] : List Value).set 1 (.int (iI v))) := rfl
theorem puX_149_2 (G : gp_) (ad : Nat → Nat) (row : Int → Int) (v : Int) : ceX G ad 149 (ur_ row 2 v) = .inr (1, ([.ref (ad 150), .int (iI (row 1)), .int (iI (row 2)), .int (iI (row 3))] : List Value).set 2 (.int (iI v))) := rfl
theorem puX_149_3 (G : gp_) (ad : Nat → Nat) (row : Int → Int) (v : Int) : ceX G ad 149 (ur_ row 3 v) = .inr (1, ([.ref (ad 150), .int (iI (row 1)), .int (iI (row 2)), .int (iI (row 3))] : List Value).set 3 (.int (iI v))) := rfl
theorem puXh_0_9 (G : gp_) (ad : Nat → Nat) (row : Int → Int) (v : Int) (i : Nat) (hi : i < 11) : ceX G ad (12 * i + 0) (ur_ row 9 v) = .inr (3, ([.ref (ad (12 * i + 1)), .ref (ad (12 * i + 2)), .ref (ad (12 * i + 3)), .ref (ad (12 * i + 4)), .ref (ad (12 * i + 5)), .ref (ad (12 * i + 6)), .ref (ad (12 * i + 7)), .ref (ad (12 * i + 8)), .ref (ad (12 * i + 10)), .int (iI (row 9)), .int (iI (row 10)), .int (iI (row 11)), .int (iI (row 12)), .int (iI (row 13)), .int (iI (row 14)), .int (iI (row 15)), .int (iI (row 16))] : List Value).set 9 (.int (iI v))) := (ceXh_0 G ad (ur_ row 9 v) i hi).trans rfl
theorem puXh_0_10 (G : gp_) (ad : Nat → Nat) (row : Int → Int) (v : Int) (i : Nat) (hi : i < 11) : ceX G ad (12 * i + 0) (ur_ row 10 v) = .inr (3, ([.ref (ad (12 * i + 1)), .ref (ad (12 * i + 2)), .ref (ad (12 * i + 3)), .ref (ad (12 * i + 4)), .ref (ad (12 * i + 5)), .ref (ad (12 * i + 6)), .ref (ad (12 * i + 7)), .ref (ad (12 * i + 8)), .ref (ad (12 * i + 10)), .int (iI (row 9)), .int (iI (row 10)), .int (iI (row 11)), .int (iI (row 12)), .int (iI (row 13)), .int (iI (row 14)), .int (iI (row 15)), .int (iI (row 16))] : List Value).set 10 (.int (iI v))) := (ceXh_0 G ad (ur_ row 10 v) i hi).trans rfl
theorem puXh_0_11 (G : gp_) (ad : Nat → Nat) (row : Int → Int) (v : Int) (i : Nat) (hi : i < 11) : ceX G ad (12 * i + 0) (ur_ row 11 v) = .inr (3, ([.ref (ad (12 * i + 1)), .ref (ad (12 * i + 2)), .ref (ad (12 * i + 3)), .ref (ad (12 * i + 4)), .ref (ad (12 * i + 5)), .ref (ad (12 * i + 6)), .ref (ad (12 * i + 7)), .ref (ad (12 * i + 8)), .ref (ad (12 * i + 10)), .int (iI (row 9)), .int (iI (row 10)), .int (iI (row 11)), .int (iI (row 12)), .int (iI (row 13)), .int (iI (row 14)), .int (iI (row 15)), .int (iI (row 16))] : List Value).set 11 (.int (iI v))) := (ceXh_0 G ad (ur_ row 11 v) i hi).trans rfl
theorem puXh_0_12 (G : gp_) (ad : Nat → Nat) (row : Int → Int) (v : Int) (i : Nat) (hi : i < 11) : ceX G ad (12 * i + 0) (ur_ row 12 v) = .inr (3, ([.ref (ad (12 * i + 1)), .ref (ad (12 * i + 2)), .ref (ad (12 * i + 3)), .ref (ad (12 * i + 4)), .ref (ad (12 * i + 5)), .ref (ad (12 * i + 6)), .ref (ad (12 * i + 7)), .ref (ad (12 * i + 8)), .ref (ad (12 * i + 10)), .int (iI (row 9)), .int (iI (row 10)), .int (iI (row 11)), .int (iI (row 12)), .int (iI (row 13)), .int (iI (row 14)), .int (iI (row 15)), .int (iI (row 16))] : List Value).set 12 (.int (iI v))) := (ceXh_0 G ad (ur_ row 12 v) i hi).trans rfl
theorem puXh_0_13 (G : gp_) (ad : Nat → Nat) (row : Int → Int) (v : Int) (i : Nat) (hi : i < 11) : ceX G ad (12 * i + 0) (ur_ row 13 v) = .inr (3, ([.ref (ad (12 * i + 1)), .ref (ad (12 * i + 2)), .ref (ad (12 * i + 3)), .ref (ad (12 * i + 4)), .ref (ad (12 * i + 5)), .ref (ad (12 * i + 6)), .ref (ad (12 * i + 7)), .ref (ad (12 * i + 8)), .ref (ad (12 * i + 10)), .int (iI (row 9)), .int (iI (row 10)), .int (iI (row 11)), .int (iI (row 12)), .int (iI (row 13)), .int (iI (row 14)), .int (iI (row 15)), .int (iI (row 16))] : List Value).set 13 (.int (iI v))) := (ceXh_0 G ad (ur_ row 13 v) i hi).trans rfl
theorem puXh_0_14 (G : gp_) (ad : Nat → Nat) (row : Int → Int) (v : Int) (i : Nat) (hi : i < 11) : ceX G ad (12 * i + 0) (ur_ row 14 v) = .inr (3, ([.ref (ad (12 * i + 1)), .ref (ad (12 * i + 2)), .ref (ad (12 * i + 3)), .ref (ad (12 * i + 4)), .ref (ad (12 * i + 5)), .ref (ad (12 * i + 6)), .ref (ad (12 * i + 7)), .ref (ad (12 * i + 8)), .ref (ad (12 * i + 10)), .int (iI (row 9)), .int (iI (row 10)), .int (iI (row 11)), .int (iI (row 12)), .int (iI (row 13)), .int (iI (row 14)), .int (iI (row 15)), .int (iI (row 16))] : List Value).set 14 (.int (iI v))) := (ceXh_0 G ad (ur_ row 14 v) i hi).trans rfl
theorem puXh_0_15 (G : gp_) (ad : Nat → Nat) (row : Int → Int) (v : Int) (i : Nat) (hi : i < 11) : ceX G ad (12 * i + 0) (ur_ row 15 v) = .inr (3, ([.ref (ad (12 * i + 1)), .ref (ad (12 * i + 2)), .ref (ad (12 * i + 3)), .ref (ad (12 * i + 4)), .ref (ad (12 * i + 5)), .ref (ad (12 * i + 6)), .ref (ad (12 * i + 7)), .ref (ad (12 * i + 8)), .ref (ad (12 * i + 10)), .int (iI (row 9)), .int (iI (row 10)), .int (iI (row 11)), .int (iI (row 12)), .int (iI (row 13)), .int (iI (row 14)), .int (iI (row 15)), .int (iI (row 16))] : List Value).set 15 (.int (iI v))) := (ceXh_0 G ad (ur_ row 15 v) i hi).trans rfl
theorem puXh_0_16 (G : gp_) (ad : Nat → Nat) (row : Int → Int) (v : Int) (i : Nat) (hi : i < 11) : ceX G ad (12 * i + 0) (ur_ row 16 v) = .inr (3, ([.ref (ad (12 * i + 1)), .ref (ad (12 * i + 2)), .ref (ad (12 * i + 3)), .ref (ad (12 * i + 4)), .ref (ad (12 * i + 5)), .ref (ad (12 * i + 6)), .ref (ad (12 * i + 7)), .ref (ad (12 * i + 8)), .ref (ad (12 * i + 10)), .int (iI (row 9)), .int (iI (row 10)), .int (iI (row 11)), .int (iI (row 12)), .int (iI (row 13)), .int (iI (row 14)), .int (iI (row 15)), .int (iI (row 16))] : List Value).set 16 (.int (iI v))) := (ceXh_0 G ad (ur_ row 16 v) i hi).trans rfl
theorem puXh_8_1 (G : gp_) (ad : Nat → Nat) (row : Int → Int) (v : Int) (i : Nat) (hi : i < 11) : ceX G ad (12 * i + 8) (ur_ row 1 v) = .inr (9, ([.ref (ad (12 * i + 9)), .int (iI (row 1))] : List Value).set 1 (.int (iI v))) := (ceXh_8 G ad (ur_ row 1 v) i hi).trans rfl
theorem puXh_10_1 (G : gp_) (ad : Nat → Nat) (row : Int → Int) (v : Int) (i : Nat) (hi : i < 11) : ceX G ad (12 * i + 10) (ur_ row 1 v) = .inr (9, ([.ref (ad (12 * i + 11)), .int (iI (row 1))] : List Value).set 1 (.int (iI v))) := (ceXh_10 G ad (ur_ row 1 v) i hi).trans rfl
theorem in_X1 : ∀ w ∈ u_ws "UrnHeap$Hands" TX1 2, w ∈ gT_ := gl_ (by decide +kernel)
theorem in_X2 : ∀ w ∈ u_ws "UrnHeap$Heap" TX2 17, w ∈ gT_ := gl_ (by decide +kernel)
theorem in_X3 : ∀ w ∈ u_ws "UrnHeap$History" TX3 6, w ∈ gT_ := gl_ (by decide +kernel)
theorem in_X5 : ∀ w ∈ u_ws "UrnHeap$Line" TX5 1, w ∈ gT_ := gl_ (by decide +kernel)
theorem in_X6 : ∀ w ∈ u_ws "UrnHeap$Orders" TX6 8, w ∈ gT_ := gl_ (by decide +kernel)
theorem in_X7 : ∀ w ∈ u_ws "UrnHeap$Paths" TX7 2, w ∈ gT_ := gl_ (by decide +kernel)
theorem in_X8 : ∀ w ∈ u_ws "UrnHeap$Refusals" TX8 2, w ∈ gT_ := gl_ (by decide +kernel)
theorem in_X9 : ∀ w ∈ u_ws "UrnHeap$Row" TX9 2, w ∈ gT_ := gl_ (by decide +kernel)
theorem in_X10 : ∀ w ∈ u_ws "UrnHeap$Sexton" TX10 2, w ∈ gT_ := gl_ (by decide +kernel)
theorem in_X11 : ∀ w ∈ u_ws "UrnHeap" TX11 8, w ∈ gT_ := gl_ (by decide +kernel)
theorem in_J4 : ∀ w ∈ u_ws "java/lang/StringBuilder" TJ4 4, w ∈ gT_ := gl_ (by decide +kernel)
theorem w_196 : Cond.fieldLink "UrnHeap$Hands" 15 "UrnHeap$Hands" "refusals" "LUrnHeap$Refusals;" ∈ gT_ := gm_ 196 (by decide +kernel)
theorem w_182 : Cond.fieldLink "UrnHeap$Refusals" 9 "UrnHeap$Refusals" "reason" "I" ∈ gT_ := gm_ 182 (by decide +kernel)
theorem w_183 : Cond.fieldLink "UrnHeap$Refusals" 15 "UrnHeap$Refusals" "detail" "I" ∈ gT_ := gm_ 183 (by decide +kernel)
theorem w_439 : Cond.methodLink "UrnHeap$Hands" 46 yX8_refuse ∈ gT_ := gm_ 439 (by decide +kernel)
theorem w_195 : Cond.fieldLink "UrnHeap$Hands" 9 "UrnHeap$Hands" "heap" "LUrnHeap$Heap;" ∈ gT_ := gm_ 195 (by decide +kernel)
theorem w_96 : Cond.fieldLink "UrnHeap$Hands" 25 "UrnHeap$Heap" "colours" "[I" ∈ gT_ := gm_ 96 (by decide +kernel)
theorem w_116 : Cond.fieldLink "UrnHeap$Hands" 52 "UrnHeap$Heap" "phase" "I" ∈ gT_ := gm_ 116 (by decide +kernel)
theorem w_119 : Cond.fieldLink "UrnHeap$Hands" 55 "UrnHeap$Heap" "nextSwept" "I" ∈ gT_ := gm_ 119 (by decide +kernel)
theorem w_91 : Cond.fieldLink "UrnHeap$Hands" 33 "UrnHeap$Heap" "rites" "[I" ∈ gT_ := gm_ 91 (by decide +kernel)
theorem w_100 : Cond.fieldLink "UrnHeap$Hands" 36 "UrnHeap$Heap" "madeIn" "[I" ∈ gT_ := gm_ 100 (by decide +kernel)
theorem w_123 : Cond.fieldLink "UrnHeap$Hands" 39 "UrnHeap$Heap" "roundsOver" "I" ∈ gT_ := gm_ 123 (by decide +kernel)
theorem w_127 : Cond.fieldLink "UrnHeap$Hands" 43 "UrnHeap$Heap" "urnsMade" "I" ∈ gT_ := gm_ 127 (by decide +kernel)
theorem w_435 : Cond.methodLink "UrnHeap$Hands" 29 yX1_colourOfNew ∈ gT_ := gm_ 435 (by decide +kernel)
theorem w_95 : Cond.fieldLink "UrnHeap$Heap" 21 "UrnHeap$Heap" "colours" "[I" ∈ gT_ := gm_ 95 (by decide +kernel)
theorem w_431 : Cond.methodLink "UrnHeap$Hands" 19 yX2_hasUrn ∈ gT_ := gm_ 431 (by decide +kernel)
theorem w_114 : Cond.fieldLink "UrnHeap$Heap" 43 "UrnHeap$Heap" "phase" "I" ∈ gT_ := gm_ 114 (by decide +kernel)
theorem w_118 : Cond.fieldLink "UrnHeap$Heap" 47 "UrnHeap$Heap" "nextSwept" "I" ∈ gT_ := gm_ 118 (by decide +kernel)
theorem w_468 : Cond.methodLink "UrnHeap$Heap" 84 yX2_isWhite ∈ gT_ := gm_ 468 (by decide +kernel)
theorem w_83 : Cond.fieldLink "UrnHeap$Heap" 9 "UrnHeap$Heap" "threads" "[I" ∈ gT_ := gm_ 83 (by decide +kernel)
theorem w_84 : Cond.fieldLink "UrnHeap$Hands" 67 "UrnHeap$Heap" "threads" "[I" ∈ gT_ := gm_ 84 (by decide +kernel)
theorem w_108 : Cond.fieldLink "UrnHeap$Heap" 36 "UrnHeap$Heap" "greys" "LUrnHeap$Row;" ∈ gT_ := gm_ 108 (by decide +kernel)
theorem w_71 : Cond.fieldLink "UrnHeap$Row" 15 "UrnHeap$Row" "size" "I" ∈ gT_ := gm_ 71 (by decide +kernel)
theorem w_70 : Cond.fieldLink "UrnHeap$Row" 9 "UrnHeap$Row" "urns" "[I" ∈ gT_ := gm_ 70 (by decide +kernel)
theorem w_488 : Cond.methodLink "UrnHeap$Heap" 108 yX9_addLast ∈ gT_ := gm_ 488 (by decide +kernel)
theorem w_484 : Cond.methodLink "UrnHeap$Heap" 112 yX2_makeGrey ∈ gT_ := gm_ 484 (by decide +kernel)
theorem w_480 : Cond.methodLink "UrnHeap$Hands" 70 yX2_makeGreyInRound ∈ gT_ := gm_ 480 (by decide +kernel)
theorem w_472 : Cond.methodLink "UrnHeap$Hands" 64 yX2_target ∈ gT_ := gm_ 472 (by decide +kernel)
theorem w_464 : Cond.methodLink "UrnHeap$Hands" 61 yX2_isToBeSwept ∈ gT_ := gm_ 464 (by decide +kernel)
theorem w_87 : Cond.fieldLink "UrnHeap$Hands" 74 "UrnHeap$Heap" "weaks" "[I" ∈ gT_ := gm_ 87 (by decide +kernel)
theorem w_105 : Cond.fieldLink "UrnHeap$Hands" 80 "UrnHeap$Heap" "names" "[I" ∈ gT_ := gm_ 105 (by decide +kernel)
theorem w_373 : Cond.methodLink "UrnHeap$Heap" 94 yX2_urnsOf ∈ gT_ := gm_ 373 (by decide +kernel)
theorem w_102 : Cond.fieldLink "UrnHeap$Heap" 27 "UrnHeap$Heap" "names" "[I" ∈ gT_ := gm_ 102 (by decide +kernel)
theorem w_993 : Cond.methodLink "UrnHeap$Heap" 98 yX2_target ∈ gT_ := gm_ 993 (by decide +kernel)
theorem w_1145 : Cond.methodLink "UrnHeap$Heap" 105 yX2_holdersOf ∈ gT_ := gm_ 1145 (by decide +kernel)
theorem w_574 : Cond.methodLink "UrnHeap$Heap" 102 yX2_hasUrn ∈ gT_ := gm_ 574 (by decide +kernel)
theorem w_129 : Cond.fieldLink "UrnHeap$Heap" 56 "UrnHeap$Heap" "urnsFreed" "I" ∈ gT_ := gm_ 129 (by decide +kernel)
theorem w_107 : Cond.fieldLink "UrnHeap$Heap" 30 "UrnHeap$Heap" "late" "[I" ∈ gT_ := gm_ 107 (by decide +kernel)
theorem w_90 : Cond.fieldLink "UrnHeap$Heap" 18 "UrnHeap$Heap" "rites" "[I" ∈ gT_ := gm_ 90 (by decide +kernel)
theorem w_86 : Cond.fieldLink "UrnHeap$Heap" 15 "UrnHeap$Heap" "weaks" "[I" ∈ gT_ := gm_ 86 (by decide +kernel)
theorem w_575 : Cond.methodLink "UrnHeap$Heap" 115 yJ9_floorMod_7cf53 ∈ gT_ := gm_ 575 (by decide +kernel)
theorem w_126 : Cond.fieldLink "UrnHeap$Heap" 53 "UrnHeap$Heap" "urnsMade" "I" ∈ gT_ := gm_ 126 (by decide +kernel)
theorem w_1133 : Cond.methodLink "UrnHeap$Heap" 128 yX2_hasBlackToWhite ∈ gT_ := gm_ 1133 (by decide +kernel)
theorem w_1129 : Cond.methodLink "UrnHeap$Heap" 124 yX2_areUrns ∈ gT_ := gm_ 1129 (by decide +kernel)
theorem w_1128 : Cond.methodLink "UrnHeap$Heap" 120 yX2_urns ∈ gT_ := gm_ 1128 (by decide +kernel)
theorem w_241 : Cond.fieldLink "UrnHeap$History" 26 "UrnHeap$History" "next" "I" ∈ gT_ := gm_ 241 (by decide +kernel)
theorem w_238 : Cond.fieldLink "UrnHeap$History" 11 "UrnHeap$History" "past" "[LUrnHeap$Heap;" ∈ gT_ := gm_ 238 (by decide +kernel)
theorem w_237 : Cond.fieldLink "UrnHeap$History" 33 "UrnHeap$History" "now" "LUrnHeap$Heap;" ∈ gT_ := gm_ 237 (by decide +kernel)
theorem w_419 : Cond.methodLink "UrnHeap$Heap" 74 arraycopyName ∈ gT_ := gm_ 419 (by decide +kernel)
theorem w_421 : Cond.native arraycopyName ∈ gT_ := gm_ 421 (by decide +kernel)
theorem w_420 : Cond.static arraycopyName ∈ gT_ := gm_ 420 (by decide +kernel)
theorem w_40 : Cond.initialized "java/lang/System" ∈ gT_ := gm_ 40 (by decide +kernel)
theorem w_99 : Cond.fieldLink "UrnHeap$Heap" 24 "UrnHeap$Heap" "madeIn" "[I" ∈ gT_ := gm_ 99 (by decide +kernel)
theorem w_426 : Cond.methodLink "UrnHeap$Row" 19 arraycopyName ∈ gT_ := gm_ 426 (by decide +kernel)
theorem w_111 : Cond.fieldLink "UrnHeap$Heap" 40 "UrnHeap$Heap" "dues" "LUrnHeap$Row;" ∈ gT_ := gm_ 111 (by decide +kernel)
theorem w_122 : Cond.fieldLink "UrnHeap$Heap" 50 "UrnHeap$Heap" "roundsOver" "I" ∈ gT_ := gm_ 122 (by decide +kernel)
theorem w_132 : Cond.fieldLink "UrnHeap$Heap" 59 "UrnHeap$Heap" "ritesDone" "I" ∈ gT_ := gm_ 132 (by decide +kernel)
theorem w_135 : Cond.fieldLink "UrnHeap$Heap" 62 "UrnHeap$Heap" "weaksCut" "I" ∈ gT_ := gm_ 135 (by decide +kernel)
theorem w_138 : Cond.fieldLink "UrnHeap$Heap" 65 "UrnHeap$Heap" "partsDone" "I" ∈ gT_ := gm_ 138 (by decide +kernel)
theorem w_422 : Cond.methodLink "UrnHeap$Heap" 80 yX9_copyFrom ∈ gT_ := gm_ 422 (by decide +kernel)
theorem w_415 : Cond.methodLink "UrnHeap$History" 40 yX2_copyFrom ∈ gT_ := gm_ 415 (by decide +kernel)
theorem w_411 : Cond.methodLink "UrnHeap$History" 36 yX3_copyAtNext ∈ gT_ := gm_ 411 (by decide +kernel)
theorem w_242 : Cond.fieldLink "UrnHeap$History" 30 "UrnHeap$History" "changes" "I" ∈ gT_ := gm_ 242 (by decide +kernel)
theorem w_450 : Cond.methodLink "UrnHeap$History" 48 Lib.Math.min.name ∈ gT_ := gm_ 450 (by decide +kernel)
theorem w_451 : Cond.static Lib.Math.min.name ∈ gT_ := gm_ 451 (by decide +kernel)
theorem w_41 : Cond.initialized "java/lang/Math" ∈ gT_ := gm_ 41 (by decide +kernel)
theorem w_452 : Cond.code Lib.Math.min.name Lib.Math.min.code 2 (some .int) ∈ gT_ := gm_ 452 (by decide +kernel)
theorem w_447 : Cond.methodLink "UrnHeap$History" 44 yX3_isRefusal ∈ gT_ := gm_ 447 (by decide +kernel)
theorem w_1172 : Cond.methodLink "UrnHeap$History" 54 yX3_takeBack ∈ gT_ := gm_ 1172 (by decide +kernel)
theorem w_239 : Cond.fieldLink "UrnHeap$History" 18 "UrnHeap$History" "saved" "LUrnHeap$Heap;" ∈ gT_ := gm_ 239 (by decide +kernel)
theorem w_240 : Cond.fieldLink "UrnHeap$History" 22 "UrnHeap$History" "isSaved" "Z" ∈ gT_ := gm_ 240 (by decide +kernel)
theorem w_1162 : Cond.methodLink "UrnHeap$History" 57 yX2_urns ∈ gT_ := gm_ 1162 (by decide +kernel)
theorem w_298 : Cond.fieldLink "UrnHeap$Orders" 12 "UrnHeap$Orders" "text" "Ljava/lang/StringBuilder;" ∈ gT_ := gm_ 298 (by decide +kernel)
theorem w_307 : Cond.fieldLink "UrnHeap$Orders" 34 "UrnHeap$Orders" "count" "I" ∈ gT_ := gm_ 307 (by decide +kernel)
theorem w_299 : Cond.fieldLink "UrnHeap$Orders" 20 "UrnHeap$Orders" "kinds" "[LUrnHeap$Kind;" ∈ gT_ := gm_ 299 (by decide +kernel)
theorem w_301 : Cond.fieldLink "UrnHeap$Orders" 24 "UrnHeap$Orders" "firsts" "[I" ∈ gT_ := gm_ 301 (by decide +kernel)
theorem w_309 : Cond.fieldLink "UrnHeap$Orders" 38 "UrnHeap$Orders" "numbers" "[I" ∈ gT_ := gm_ 309 (by decide +kernel)
theorem w_303 : Cond.fieldLink "UrnHeap$Orders" 28 "UrnHeap$Orders" "seconds" "[I" ∈ gT_ := gm_ 303 (by decide +kernel)
theorem w_305 : Cond.fieldLink "UrnHeap$Orders" 31 "UrnHeap$Orders" "thirds" "[I" ∈ gT_ := gm_ 305 (by decide +kernel)
theorem w_910 : Cond.methodLink "UrnHeap$Orders" 75 yX6_keep ∈ gT_ := gm_ 910 (by decide +kernel)
theorem w_310 : Cond.fieldLink "UrnHeap$Orders" 41 "UrnHeap$Orders" "at" "I" ∈ gT_ := gm_ 310 (by decide +kernel)
theorem w_221 : Cond.fieldLink "UrnHeap$Paths" 15 "UrnHeap$Paths" "heap" "LUrnHeap$Heap;" ∈ gT_ := gm_ 221 (by decide +kernel)
theorem w_94 : Cond.fieldLink "UrnHeap$Paths" 74 "UrnHeap$Heap" "rites" "[I" ∈ gT_ := gm_ 94 (by decide +kernel)
theorem w_1029 : Cond.methodLink "UrnHeap$Paths" 34 yX7_bit ∈ gT_ := gm_ 1029 (by decide +kernel)
theorem w_1028 : Cond.methodLink "UrnHeap$Paths" 58 yX2_hasUrn ∈ gT_ := gm_ 1028 (by decide +kernel)
theorem w_103 : Cond.fieldLink "UrnHeap$Paths" 29 "UrnHeap$Heap" "names" "[I" ∈ gT_ := gm_ 103 (by decide +kernel)
theorem w_1024 : Cond.methodLink "UrnHeap$Paths" 26 yX7_rootsByRite ∈ gT_ := gm_ 1024 (by decide +kernel)
theorem w_1048 : Cond.methodLink "UrnHeap$Paths" 77 yX2_target ∈ gT_ := gm_ 1048 (by decide +kernel)
theorem w_1044 : Cond.methodLink "UrnHeap$Paths" 51 yX7_targets ∈ gT_ := gm_ 1044 (by decide +kernel)
theorem w_1041 : Cond.methodLink "UrnHeap$Paths" 37 yX7_isIn ∈ gT_ := gm_ 1041 (by decide +kernel)
theorem w_1037 : Cond.methodLink "UrnHeap$Paths" 44 yX7_targetsOfAll ∈ gT_ := gm_ 1037 (by decide +kernel)
theorem w_1033 : Cond.methodLink "UrnHeap$Paths" 23 yX7_reachFrom ∈ gT_ := gm_ 1033 (by decide +kernel)
theorem w_1020 : Cond.methodLink "UrnHeap$Paths" 19 yX7_roots ∈ gT_ := gm_ 1020 (by decide +kernel)
theorem w_85 : Cond.fieldLink "UrnHeap$Paths" 80 "UrnHeap$Heap" "threads" "[I" ∈ gT_ := gm_ 85 (by decide +kernel)
theorem w_1108 : Cond.methodLink "UrnHeap$Paths" 41 yX7_isHeldBySome ∈ gT_ := gm_ 1108 (by decide +kernel)
theorem w_1066 : Cond.methodLink "UrnHeap$Paths" 47 yX7_reach ∈ gT_ := gm_ 1066 (by decide +kernel)
theorem w_1075 : Cond.methodLink "UrnHeap$Paths" 54 yX7_distance ∈ gT_ := gm_ 1075 (by decide +kernel)
theorem w_222 : Cond.fieldLink "UrnHeap$Paths" 9 "UrnHeap$Paths" "weights" "[I" ∈ gT_ := gm_ 222 (by decide +kernel)
theorem w_1089 : Cond.methodLink "UrnHeap$Paths" 71 yX2_threadsFrom ∈ gT_ := gm_ 1089 (by decide +kernel)
theorem w_1088 : Cond.methodLink "UrnHeap$Paths" 68 yX2_holdersOf ∈ gT_ := gm_ 1088 (by decide +kernel)
theorem w_1090 : Cond.methodLink "UrnHeap$Paths" 65 yX7_heavierThan ∈ gT_ := gm_ 1090 (by decide +kernel)
theorem w_1084 : Cond.methodLink "UrnHeap$Paths" 62 yX7_weighAll ∈ gT_ := gm_ 1084 (by decide +kernel)
theorem w_208 : Cond.fieldLink "UrnHeap$Sexton" 9 "UrnHeap$Sexton" "heap" "LUrnHeap$Heap;" ∈ gT_ := gm_ 208 (by decide +kernel)
theorem w_115 : Cond.fieldLink "UrnHeap$Sexton" 19 "UrnHeap$Heap" "phase" "I" ∈ gT_ := gm_ 115 (by decide +kernel)
theorem w_112 : Cond.fieldLink "UrnHeap$Sexton" 53 "UrnHeap$Heap" "dues" "LUrnHeap$Row;" ∈ gT_ := gm_ 112 (by decide +kernel)
theorem w_72 : Cond.fieldLink "UrnHeap$Sexton" 38 "UrnHeap$Row" "size" "I" ∈ gT_ := gm_ 72 (by decide +kernel)
theorem w_548 : Cond.methodLink "UrnHeap$Sexton" 74 yX2_makeGrey ∈ gT_ := gm_ 548 (by decide +kernel)
theorem w_549 : Cond.methodLink "UrnHeap$Sexton" 78 yX9_at ∈ gT_ := gm_ 549 (by decide +kernel)
theorem w_104 : Cond.fieldLink "UrnHeap$Sexton" 71 "UrnHeap$Heap" "names" "[I" ∈ gT_ := gm_ 104 (by decide +kernel)
theorem w_109 : Cond.fieldLink "UrnHeap$Sexton" 34 "UrnHeap$Heap" "greys" "LUrnHeap$Row;" ∈ gT_ := gm_ 109 (by decide +kernel)
theorem w_544 : Cond.methodLink "UrnHeap$Sexton" 31 yX10_markRoots ∈ gT_ := gm_ 544 (by decide +kernel)
theorem w_209 : Cond.fieldLink "UrnHeap$Sexton" 15 "UrnHeap$Sexton" "refusals" "LUrnHeap$Refusals;" ∈ gT_ := gm_ 209 (by decide +kernel)
theorem w_543 : Cond.methodLink "UrnHeap$Sexton" 25 yX8_refuse ∈ gT_ := gm_ 543 (by decide +kernel)
theorem w_139 : Cond.fieldLink "UrnHeap$Sexton" 94 "UrnHeap$Heap" "partsDone" "I" ∈ gT_ := gm_ 139 (by decide +kernel)
theorem w_92 : Cond.fieldLink "UrnHeap$Sexton" 67 "UrnHeap$Heap" "rites" "[I" ∈ gT_ := gm_ 92 (by decide +kernel)
theorem w_593 : Cond.methodLink "UrnHeap$Sexton" 106 yX9_addLast ∈ gT_ := gm_ 593 (by decide +kernel)
theorem w_569 : Cond.methodLink "UrnHeap$Sexton" 103 yX2_isWhite ∈ gT_ := gm_ 569 (by decide +kernel)
theorem w_120 : Cond.fieldLink "UrnHeap$Sexton" 115 "UrnHeap$Heap" "nextSwept" "I" ∈ gT_ := gm_ 120 (by decide +kernel)
theorem w_89 : Cond.fieldLink "UrnHeap$Sexton" 109 "UrnHeap$Heap" "weaks" "[I" ∈ gT_ := gm_ 89 (by decide +kernel)
theorem w_136 : Cond.fieldLink "UrnHeap$Sexton" 112 "UrnHeap$Heap" "weaksCut" "I" ∈ gT_ := gm_ 136 (by decide +kernel)
theorem w_594 : Cond.methodLink "UrnHeap$Sexton" 91 yX10_beginSweep ∈ gT_ := gm_ 594 (by decide +kernel)
theorem w_589 : Cond.methodLink "UrnHeap$Sexton" 87 yX10_makeRitesDue ∈ gT_ := gm_ 589 (by decide +kernel)
theorem w_97 : Cond.fieldLink "UrnHeap$Sexton" 97 "UrnHeap$Heap" "colours" "[I" ∈ gT_ := gm_ 97 (by decide +kernel)
theorem w_588 : Cond.methodLink "UrnHeap$Sexton" 100 yX2_target ∈ gT_ := gm_ 588 (by decide +kernel)
theorem w_583 : Cond.methodLink "UrnHeap$Sexton" 56 yX9_takeFirst ∈ gT_ := gm_ 583 (by decide +kernel)
theorem w_579 : Cond.methodLink "UrnHeap$Sexton" 84 yX10_blackenFirst ∈ gT_ := gm_ 579 (by decide +kernel)
theorem w_124 : Cond.fieldLink "UrnHeap$Sexton" 43 "UrnHeap$Heap" "roundsOver" "I" ∈ gT_ := gm_ 124 (by decide +kernel)
theorem w_578 : Cond.methodLink "UrnHeap$Sexton" 121 yX2_hasUrn ∈ gT_ := gm_ 578 (by decide +kernel)
theorem w_570 : Cond.methodLink "UrnHeap$Sexton" 118 yX2_free ∈ gT_ := gm_ 570 (by decide +kernel)
theorem w_565 : Cond.methodLink "UrnHeap$Sexton" 81 yX10_sweepNext ∈ gT_ := gm_ 565 (by decide +kernel)
theorem w_561 : Cond.methodLink "UrnHeap$Sexton" 46 yX10_doPartsUntilOver ∈ gT_ := gm_ 561 (by decide +kernel)
theorem w_130 : Cond.fieldLink "UrnHeap$Sexton" 50 "UrnHeap$Heap" "urnsFreed" "I" ∈ gT_ := gm_ 130 (by decide +kernel)
theorem w_133 : Cond.fieldLink "UrnHeap$Sexton" 64 "UrnHeap$Heap" "ritesDone" "I" ∈ gT_ := gm_ 133 (by decide +kernel)
theorem w_345 : Cond.fieldLink "UrnHeap" 51 "UrnHeap" "history" "LUrnHeap$History;" ∈ gT_ := gm_ 345 (by decide +kernel)
theorem w_342 : Cond.fieldLink "UrnHeap" 28 "UrnHeap" "hands" "LUrnHeap$Hands;" ∈ gT_ := gm_ 342 (by decide +kernel)
theorem w_443 : Cond.methodLink "UrnHeap" 76 yX3_settle ∈ gT_ := gm_ 443 (by decide +kernel)
theorem w_427 : Cond.methodLink "UrnHeap" 72 yX1_makeUrn ∈ gT_ := gm_ 427 (by decide +kernel)
theorem w_407 : Cond.methodLink "UrnHeap" 69 yX3_keepBefore ∈ gT_ := gm_ 407 (by decide +kernel)
theorem w_457 : Cond.methodLink "UrnHeap" 80 yX1_tieThread ∈ gT_ := gm_ 457 (by decide +kernel)
theorem w_496 : Cond.methodLink "UrnHeap" 84 yX1_takeThread ∈ gT_ := gm_ 496 (by decide +kernel)
theorem w_504 : Cond.methodLink "UrnHeap" 88 yX1_tieWeak ∈ gT_ := gm_ 504 (by decide +kernel)
theorem w_512 : Cond.methodLink "UrnHeap" 91 yX1_takeWeak ∈ gT_ := gm_ 512 (by decide +kernel)
theorem w_520 : Cond.methodLink "UrnHeap" 94 yX1_giveName ∈ gT_ := gm_ 520 (by decide +kernel)
theorem w_531 : Cond.methodLink "UrnHeap" 97 yX1_takeName ∈ gT_ := gm_ 531 (by decide +kernel)
theorem w_340 : Cond.fieldLink "UrnHeap" 13 "UrnHeap" "heap" "LUrnHeap$Heap;" ∈ gT_ := gm_ 340 (by decide +kernel)
theorem w_98 : Cond.fieldLink "UrnHeap" 104 "UrnHeap$Heap" "colours" "[I" ∈ gT_ := gm_ 98 (by decide +kernel)
theorem w_93 : Cond.fieldLink "UrnHeap" 108 "UrnHeap$Heap" "rites" "[I" ∈ gT_ := gm_ 93 (by decide +kernel)
theorem w_989 : Cond.methodLink "UrnHeap" 111 yX2_threadsFrom ∈ gT_ := gm_ 989 (by decide +kernel)
theorem w_994 : Cond.methodLink "UrnHeap" 114 yX2_holdersOf ∈ gT_ := gm_ 994 (by decide +kernel)
theorem w_88 : Cond.fieldLink "UrnHeap" 117 "UrnHeap$Heap" "weaks" "[I" ∈ gT_ := gm_ 88 (by decide +kernel)
theorem w_101 : Cond.fieldLink "UrnHeap" 120 "UrnHeap$Heap" "madeIn" "[I" ∈ gT_ := gm_ 101 (by decide +kernel)
theorem w_988 : Cond.methodLink "UrnHeap" 100 yX2_hasUrn ∈ gT_ := gm_ 988 (by decide +kernel)
theorem w_1003 : Cond.methodLink "UrnHeap" 126 yX2_target ∈ gT_ := gm_ 1003 (by decide +kernel)
theorem w_1002 : Cond.methodLink "UrnHeap" 123 yX11_isSlot ∈ gT_ := gm_ 1002 (by decide +kernel)
theorem w_106 : Cond.fieldLink "UrnHeap" 132 "UrnHeap$Heap" "names" "[I" ∈ gT_ := gm_ 106 (by decide +kernel)
theorem w_1008 : Cond.methodLink "UrnHeap" 129 yX11_isName ∈ gT_ := gm_ 1008 (by decide +kernel)
theorem w_343 : Cond.fieldLink "UrnHeap" 35 "UrnHeap" "sexton" "LUrnHeap$Sexton;" ∈ gT_ := gm_ 343 (by decide +kernel)
theorem w_539 : Cond.methodLink "UrnHeap" 135 yX10_beginRound ∈ gT_ := gm_ 539 (by decide +kernel)
theorem w_557 : Cond.methodLink "UrnHeap" 139 yX10_doParts ∈ gT_ := gm_ 557 (by decide +kernel)
theorem w_602 : Cond.methodLink "UrnHeap" 142 yX10_endRound ∈ gT_ := gm_ 602 (by decide +kernel)
theorem w_610 : Cond.methodLink "UrnHeap" 145 yX10_doRite ∈ gT_ := gm_ 610 (by decide +kernel)
theorem w_113 : Cond.fieldLink "UrnHeap" 148 "UrnHeap$Heap" "dues" "LUrnHeap$Row;" ∈ gT_ := gm_ 113 (by decide +kernel)
theorem w_970 : Cond.methodLink "UrnHeap" 152 yX9_at ∈ gT_ := gm_ 970 (by decide +kernel)
theorem w_110 : Cond.fieldLink "UrnHeap" 157 "UrnHeap$Heap" "greys" "LUrnHeap$Row;" ∈ gT_ := gm_ 110 (by decide +kernel)
theorem w_980 : Cond.methodLink "UrnHeap" 160 yX2_freedLate ∈ gT_ := gm_ 980 (by decide +kernel)
theorem w_344 : Cond.fieldLink "UrnHeap" 44 "UrnHeap" "paths" "LUrnHeap$Paths;" ∈ gT_ := gm_ 344 (by decide +kernel)
theorem w_1016 : Cond.methodLink "UrnHeap" 163 yX7_reach ∈ gT_ := gm_ 1016 (by decide +kernel)
theorem w_1104 : Cond.methodLink "UrnHeap" 166 yX7_reachUrnByUrn ∈ gT_ := gm_ 1104 (by decide +kernel)
theorem w_1054 : Cond.methodLink "UrnHeap" 172 yX7_distance ∈ gT_ := gm_ 1054 (by decide +kernel)
theorem w_1053 : Cond.methodLink "UrnHeap" 169 yX7_roots ∈ gT_ := gm_ 1053 (by decide +kernel)
theorem w_1062 : Cond.methodLink "UrnHeap" 175 yX7_neededNames ∈ gT_ := gm_ 1062 (by decide +kernel)
theorem w_1071 : Cond.methodLink "UrnHeap" 178 yX7_ringLength ∈ gT_ := gm_ 1071 (by decide +kernel)
theorem w_1116 : Cond.methodLink "UrnHeap" 181 yX7_leftOver ∈ gT_ := gm_ 1116 (by decide +kernel)
theorem w_1080 : Cond.methodLink "UrnHeap" 184 yX7_urnAtRank ∈ gT_ := gm_ 1080 (by decide +kernel)
theorem w_346 : Cond.fieldLink "UrnHeap" 58 "UrnHeap" "orders" "LUrnHeap$Orders;" ∈ gT_ := gm_ 346 (by decide +kernel)
theorem w_125 : Cond.fieldLink "UrnHeap" 229 "UrnHeap$Heap" "roundsOver" "I" ∈ gT_ := gm_ 125 (by decide +kernel)
theorem w_117 : Cond.fieldLink "UrnHeap" 232 "UrnHeap$Heap" "phase" "I" ∈ gT_ := gm_ 117 (by decide +kernel)
theorem w_121 : Cond.fieldLink "UrnHeap" 235 "UrnHeap$Heap" "nextSwept" "I" ∈ gT_ := gm_ 121 (by decide +kernel)
theorem w_369 : Cond.methodLink "UrnHeap" 238 yX2_urns ∈ gT_ := gm_ 369 (by decide +kernel)
theorem w_377 : Cond.methodLink "UrnHeap" 241 yX2_urnsOf ∈ gT_ := gm_ 377 (by decide +kernel)
theorem w_128 : Cond.fieldLink "UrnHeap" 244 "UrnHeap$Heap" "urnsMade" "I" ∈ gT_ := gm_ 128 (by decide +kernel)
theorem w_131 : Cond.fieldLink "UrnHeap" 247 "UrnHeap$Heap" "urnsFreed" "I" ∈ gT_ := gm_ 131 (by decide +kernel)
theorem w_73 : Cond.fieldLink "UrnHeap" 250 "UrnHeap$Row" "size" "I" ∈ gT_ := gm_ 73 (by decide +kernel)
theorem w_134 : Cond.fieldLink "UrnHeap" 253 "UrnHeap$Heap" "ritesDone" "I" ∈ gT_ := gm_ 134 (by decide +kernel)
theorem w_137 : Cond.fieldLink "UrnHeap" 256 "UrnHeap$Heap" "weaksCut" "I" ∈ gT_ := gm_ 137 (by decide +kernel)
theorem w_378 : Cond.methodLink "UrnHeap" 259 yX2_namesInUse ∈ gT_ := gm_ 378 (by decide +kernel)
theorem w_140 : Cond.fieldLink "UrnHeap" 262 "UrnHeap$Heap" "partsDone" "I" ∈ gT_ := gm_ 140 (by decide +kernel)
theorem w_1124 : Cond.methodLink "UrnHeap" 271 yX2_isSound ∈ gT_ := gm_ 1124 (by decide +kernel)
theorem w_1141 : Cond.methodLink "UrnHeap" 275 yX2_holdersOfAll ∈ gT_ := gm_ 1141 (by decide +kernel)
theorem w_1150 : Cond.methodLink "UrnHeap" 278 yJ6_bitCount_0f7a4 ∈ gT_ := gm_ 1150 (by decide +kernel)
theorem w_1168 : Cond.methodLink "UrnHeap" 283 yX3_undoLatest ∈ gT_ := gm_ 1168 (by decide +kernel)
theorem w_1158 : Cond.methodLink "UrnHeap" 286 yX3_saveNow ∈ gT_ := gm_ 1158 (by decide +kernel)
theorem w_1177 : Cond.methodLink "UrnHeap" 289 yX3_restoreSaved ∈ gT_ := gm_ 1177 (by decide +kernel)
theorem w_302 : Cond.fieldLink "UrnHeap" 295 "UrnHeap$Orders" "firsts" "[I" ∈ gT_ := gm_ 302 (by decide +kernel)
theorem w_304 : Cond.fieldLink "UrnHeap" 298 "UrnHeap$Orders" "seconds" "[I" ∈ gT_ := gm_ 304 (by decide +kernel)
theorem w_947 : Cond.fieldLink "UrnHeap" 301 "UrnHeap$1" "$SwitchMap$UrnHeap$Kind" "[I" ∈ gT_ := gm_ 947 (by decide +kernel)
theorem w_300 : Cond.fieldLink "UrnHeap" 306 "UrnHeap$Orders" "kinds" "[LUrnHeap$Kind;" ∈ gT_ := gm_ 300 (by decide +kernel)
theorem w_29 : Cond.initialized "UrnHeap$Refusals" ∈ gT_ := gm_ 29 (by decide +kernel)
theorem w_442 : Cond.code yX8_refuse cX8_refuse 3 (some .int) ∈ gT_ := gm_ 442 (by decide +kernel)
theorem w_440 : Cond.instanceMethod yX8_refuse ∈ gT_ := gm_ 440 (by decide +kernel)
theorem w_441 : Cond.selects "UrnHeap$Refusals" yX8_refuse yX8_refuse ∈ gT_ := gm_ 441 (by decide +kernel)
theorem w_30 : Cond.initialized "UrnHeap$Hands" ∈ gT_ := gm_ 30 (by decide +kernel)
theorem w_438 : Cond.code yX1_colourOfNew cX1_colourOfNew 3 (some .int) ∈ gT_ := gm_ 438 (by decide +kernel)
theorem w_437 : Cond.instanceMethod yX1_colourOfNew ∈ gT_ := gm_ 437 (by decide +kernel)
theorem w_1 : Cond.selects "UrnHeap$Hands" yX1_colourOfNew yX1_colourOfNew ∈ gT_ := gm_ 1 (by decide +kernel)
theorem w_26 : Cond.initialized "UrnHeap$Heap" ∈ gT_ := gm_ 26 (by decide +kernel)
theorem w_434 : Cond.code yX2_hasUrn cX2_hasUrn 2 (some .boolean) ∈ gT_ := gm_ 434 (by decide +kernel)
theorem w_432 : Cond.instanceMethod yX2_hasUrn ∈ gT_ := gm_ 432 (by decide +kernel)
theorem w_433 : Cond.selects "UrnHeap$Heap" yX2_hasUrn yX2_hasUrn ∈ gT_ := gm_ 433 (by decide +kernel)
theorem w_25 : Cond.initialized "UrnHeap" ∈ gT_ := gm_ 25 (by decide +kernel)
theorem w_463 : Cond.code yX11_isSlot cX11_isSlot 1 (some .boolean) ∈ gT_ := gm_ 463 (by decide +kernel)
theorem w_462 : Cond.static yX11_isSlot ∈ gT_ := gm_ 462 (by decide +kernel)
theorem w_471 : Cond.code yX2_isWhite cX2_isWhite 2 (some .boolean) ∈ gT_ := gm_ 471 (by decide +kernel)
theorem w_469 : Cond.instanceMethod yX2_isWhite ∈ gT_ := gm_ 469 (by decide +kernel)
theorem w_470 : Cond.selects "UrnHeap$Heap" yX2_isWhite yX2_isWhite ∈ gT_ := gm_ 470 (by decide +kernel)
theorem w_467 : Cond.code yX2_isToBeSwept cX2_isToBeSwept 2 (some .boolean) ∈ gT_ := gm_ 467 (by decide +kernel)
theorem w_465 : Cond.instanceMethod yX2_isToBeSwept ∈ gT_ := gm_ 465 (by decide +kernel)
theorem w_466 : Cond.selects "UrnHeap$Heap" yX2_isToBeSwept yX2_isToBeSwept ∈ gT_ := gm_ 466 (by decide +kernel)
theorem w_478 : Cond.code yX11_isCell cX11_isCell 1 (some .boolean) ∈ gT_ := gm_ 478 (by decide +kernel)
theorem w_477 : Cond.static yX11_isCell ∈ gT_ := gm_ 477 (by decide +kernel)
theorem w_475 : Cond.code yX2_target cX2_target 3 (some .int) ∈ gT_ := gm_ 475 (by decide +kernel)
theorem w_473 : Cond.instanceMethod yX2_target ∈ gT_ := gm_ 473 (by decide +kernel)
theorem w_474 : Cond.selects "UrnHeap$Heap" yX2_target yX2_target ∈ gT_ := gm_ 474 (by decide +kernel)
theorem w_27 : Cond.initialized "UrnHeap$Row" ∈ gT_ := gm_ 27 (by decide +kernel)
theorem w_491 : Cond.code yX9_addLast cX9_addLast 2 none ∈ gT_ := gm_ 491 (by decide +kernel)
theorem w_489 : Cond.instanceMethod yX9_addLast ∈ gT_ := gm_ 489 (by decide +kernel)
theorem w_490 : Cond.selects "UrnHeap$Row" yX9_addLast yX9_addLast ∈ gT_ := gm_ 490 (by decide +kernel)
theorem w_487 : Cond.code yX2_makeGrey cX2_makeGrey 2 none ∈ gT_ := gm_ 487 (by decide +kernel)
theorem w_485 : Cond.instanceMethod yX2_makeGrey ∈ gT_ := gm_ 485 (by decide +kernel)
theorem w_486 : Cond.selects "UrnHeap$Heap" yX2_makeGrey yX2_makeGrey ∈ gT_ := gm_ 486 (by decide +kernel)
theorem w_483 : Cond.code yX2_makeGreyInRound cX2_makeGreyInRound 2 none ∈ gT_ := gm_ 483 (by decide +kernel)
theorem w_481 : Cond.instanceMethod yX2_makeGreyInRound ∈ gT_ := gm_ 481 (by decide +kernel)
theorem w_482 : Cond.selects "UrnHeap$Heap" yX2_makeGreyInRound yX2_makeGreyInRound ∈ gT_ := gm_ 482 (by decide +kernel)
theorem w_526 : Cond.code yX11_isName cX11_isName 1 (some .boolean) ∈ gT_ := gm_ 526 (by decide +kernel)
theorem w_525 : Cond.static yX11_isName ∈ gT_ := gm_ 525 (by decide +kernel)
theorem w_376 : Cond.code yX2_urnsOf cX2_urnsOf 4 (some .int) ∈ gT_ := gm_ 376 (by decide +kernel)
theorem w_374 : Cond.instanceMethod yX2_urnsOf ∈ gT_ := gm_ 374 (by decide +kernel)
theorem w_375 : Cond.selects "UrnHeap$Heap" yX2_urnsOf yX2_urnsOf ∈ gT_ := gm_ 375 (by decide +kernel)
theorem w_997 : Cond.code yX2_holdersOf cX2_holdersOf 4 (some .int) ∈ gT_ := gm_ 997 (by decide +kernel)
theorem w_995 : Cond.instanceMethod yX2_holdersOf ∈ gT_ := gm_ 995 (by decide +kernel)
theorem w_996 : Cond.selects "UrnHeap$Heap" yX2_holdersOf yX2_holdersOf ∈ gT_ := gm_ 996 (by decide +kernel)
theorem w_577 : Cond.code yJ9_floorMod_7cf53 cJ9_floorMod_7cf53 3 (some .int) ∈ gT_ := gm_ 577 (by decide +kernel)
theorem w_576 : Cond.static yJ9_floorMod_7cf53 ∈ gT_ := gm_ 576 (by decide +kernel)
theorem w_372 : Cond.code yX2_urns cX2_urns 1 (some .int) ∈ gT_ := gm_ 372 (by decide +kernel)
theorem w_370 : Cond.instanceMethod yX2_urns ∈ gT_ := gm_ 370 (by decide +kernel)
theorem w_371 : Cond.selects "UrnHeap$Heap" yX2_urns yX2_urns ∈ gT_ := gm_ 371 (by decide +kernel)
theorem w_1132 : Cond.code yX2_areUrns cX2_areUrns 6 (some .boolean) ∈ gT_ := gm_ 1132 (by decide +kernel)
theorem w_1131 : Cond.instanceMethod yX2_areUrns ∈ gT_ := gm_ 1131 (by decide +kernel)
theorem w_22 : Cond.selects "UrnHeap$Heap" yX2_areUrns yX2_areUrns ∈ gT_ := gm_ 22 (by decide +kernel)
theorem w_1136 : Cond.code yX2_hasBlackToWhite cX2_hasBlackToWhite 2 (some .boolean) ∈ gT_ := gm_ 1136 (by decide +kernel)
theorem w_1135 : Cond.instanceMethod yX2_hasBlackToWhite ∈ gT_ := gm_ 1135 (by decide +kernel)
theorem w_23 : Cond.selects "UrnHeap$Heap" yX2_hasBlackToWhite yX2_hasBlackToWhite ∈ gT_ := gm_ 23 (by decide +kernel)
theorem w_33 : Cond.initialized "UrnHeap$History" ∈ gT_ := gm_ 33 (by decide +kernel)
theorem w_414 : Cond.code yX3_copyAtNext cX3_copyAtNext 1 (some (.object "UrnHeap$Heap")) ∈ gT_ := gm_ 414 (by decide +kernel)
theorem w_413 : Cond.instanceMethod yX3_copyAtNext ∈ gT_ := gm_ 413 (by decide +kernel)
theorem w_0 : Cond.selects "UrnHeap$History" yX3_copyAtNext yX3_copyAtNext ∈ gT_ := gm_ 0 (by decide +kernel)
theorem w_425 : Cond.code yX9_copyFrom cX9_copyFrom 2 none ∈ gT_ := gm_ 425 (by decide +kernel)
theorem w_423 : Cond.instanceMethod yX9_copyFrom ∈ gT_ := gm_ 423 (by decide +kernel)
theorem w_424 : Cond.selects "UrnHeap$Row" yX9_copyFrom yX9_copyFrom ∈ gT_ := gm_ 424 (by decide +kernel)
theorem w_418 : Cond.code yX2_copyFrom cX2_copyFrom 2 none ∈ gT_ := gm_ 418 (by decide +kernel)
theorem w_416 : Cond.instanceMethod yX2_copyFrom ∈ gT_ := gm_ 416 (by decide +kernel)
theorem w_417 : Cond.selects "UrnHeap$Heap" yX2_copyFrom yX2_copyFrom ∈ gT_ := gm_ 417 (by decide +kernel)
theorem w_449 : Cond.code yX3_isRefusal cX3_isRefusal 1 (some .boolean) ∈ gT_ := gm_ 449 (by decide +kernel)
theorem w_448 : Cond.static yX3_isRefusal ∈ gT_ := gm_ 448 (by decide +kernel)
theorem w_959 : Cond.code yX3_takeBack cX3_takeBack 2 none ∈ gT_ := gm_ 959 (by decide +kernel)
theorem w_957 : Cond.instanceMethod yX3_takeBack ∈ gT_ := gm_ 957 (by decide +kernel)
theorem w_958 : Cond.selects "UrnHeap$History" yX3_takeBack yX3_takeBack ∈ gT_ := gm_ 958 (by decide +kernel)
theorem w_34 : Cond.initialized "UrnHeap$Orders" ∈ gT_ := gm_ 34 (by decide +kernel)
theorem w_913 : Cond.code yX6_keep cX6_keep 2 none ∈ gT_ := gm_ 913 (by decide +kernel)
theorem w_912 : Cond.instanceMethod yX6_keep ∈ gT_ := gm_ 912 (by decide +kernel)
theorem w_13 : Cond.selects "UrnHeap$Orders" yX6_keep yX6_keep ∈ gT_ := gm_ 13 (by decide +kernel)
theorem w_32 : Cond.initialized "UrnHeap$Paths" ∈ gT_ := gm_ 32 (by decide +kernel)
theorem w_1031 : Cond.code yX7_bit cX7_bit 1 (some .int) ∈ gT_ := gm_ 1031 (by decide +kernel)
theorem w_1030 : Cond.static yX7_bit ∈ gT_ := gm_ 1030 (by decide +kernel)
theorem w_1027 : Cond.code yX7_rootsByRite cX7_rootsByRite 4 (some .int) ∈ gT_ := gm_ 1027 (by decide +kernel)
theorem w_1026 : Cond.instanceMethod yX7_rootsByRite ∈ gT_ := gm_ 1026 (by decide +kernel)
theorem w_15 : Cond.selects "UrnHeap$Paths" yX7_rootsByRite yX7_rootsByRite ∈ gT_ := gm_ 15 (by decide +kernel)
theorem w_1023 : Cond.code yX7_roots cX7_roots 4 (some .int) ∈ gT_ := gm_ 1023 (by decide +kernel)
theorem w_1021 : Cond.instanceMethod yX7_roots ∈ gT_ := gm_ 1021 (by decide +kernel)
theorem w_1022 : Cond.selects "UrnHeap$Paths" yX7_roots yX7_roots ∈ gT_ := gm_ 1022 (by decide +kernel)
theorem w_1043 : Cond.code yX7_isIn cX7_isIn 2 (some .boolean) ∈ gT_ := gm_ 1043 (by decide +kernel)
theorem w_1042 : Cond.static yX7_isIn ∈ gT_ := gm_ 1042 (by decide +kernel)
theorem w_1047 : Cond.code yX7_targets cX7_targets 4 (some .int) ∈ gT_ := gm_ 1047 (by decide +kernel)
theorem w_1046 : Cond.instanceMethod yX7_targets ∈ gT_ := gm_ 1046 (by decide +kernel)
theorem w_18 : Cond.selects "UrnHeap$Paths" yX7_targets yX7_targets ∈ gT_ := gm_ 18 (by decide +kernel)
theorem w_1040 : Cond.code yX7_targetsOfAll cX7_targetsOfAll 4 (some .int) ∈ gT_ := gm_ 1040 (by decide +kernel)
theorem w_1039 : Cond.instanceMethod yX7_targetsOfAll ∈ gT_ := gm_ 1039 (by decide +kernel)
theorem w_17 : Cond.selects "UrnHeap$Paths" yX7_targetsOfAll yX7_targetsOfAll ∈ gT_ := gm_ 17 (by decide +kernel)
theorem w_1036 : Cond.code yX7_reachFrom cX7_reachFrom 5 (some .int) ∈ gT_ := gm_ 1036 (by decide +kernel)
theorem w_1035 : Cond.instanceMethod yX7_reachFrom ∈ gT_ := gm_ 1035 (by decide +kernel)
theorem w_16 : Cond.selects "UrnHeap$Paths" yX7_reachFrom yX7_reachFrom ∈ gT_ := gm_ 16 (by decide +kernel)
theorem w_1111 : Cond.code yX7_isHeldBySome cX7_isHeldBySome 4 (some .boolean) ∈ gT_ := gm_ 1111 (by decide +kernel)
theorem w_1110 : Cond.instanceMethod yX7_isHeldBySome ∈ gT_ := gm_ 1110 (by decide +kernel)
theorem w_21 : Cond.selects "UrnHeap$Paths" yX7_isHeldBySome yX7_isHeldBySome ∈ gT_ := gm_ 21 (by decide +kernel)
theorem w_1019 : Cond.code yX7_reach cX7_reach 1 (some .int) ∈ gT_ := gm_ 1019 (by decide +kernel)
theorem w_1017 : Cond.instanceMethod yX7_reach ∈ gT_ := gm_ 1017 (by decide +kernel)
theorem w_1018 : Cond.selects "UrnHeap$Paths" yX7_reach yX7_reach ∈ gT_ := gm_ 1018 (by decide +kernel)
theorem w_1057 : Cond.code yX7_distance cX7_distance 6 (some .int) ∈ gT_ := gm_ 1057 (by decide +kernel)
theorem w_1055 : Cond.instanceMethod yX7_distance ∈ gT_ := gm_ 1055 (by decide +kernel)
theorem w_1056 : Cond.selects "UrnHeap$Paths" yX7_distance yX7_distance ∈ gT_ := gm_ 1056 (by decide +kernel)
theorem w_992 : Cond.code yX2_threadsFrom cX2_threadsFrom 4 (some .int) ∈ gT_ := gm_ 992 (by decide +kernel)
theorem w_990 : Cond.instanceMethod yX2_threadsFrom ∈ gT_ := gm_ 990 (by decide +kernel)
theorem w_991 : Cond.selects "UrnHeap$Heap" yX2_threadsFrom yX2_threadsFrom ∈ gT_ := gm_ 991 (by decide +kernel)
theorem w_1087 : Cond.code yX7_weighAll cX7_weighAll 4 none ∈ gT_ := gm_ 1087 (by decide +kernel)
theorem w_1086 : Cond.instanceMethod yX7_weighAll ∈ gT_ := gm_ 1086 (by decide +kernel)
theorem w_19 : Cond.selects "UrnHeap$Paths" yX7_weighAll yX7_weighAll ∈ gT_ := gm_ 19 (by decide +kernel)
theorem w_1093 : Cond.code yX7_heavierThan cX7_heavierThan 7 (some .int) ∈ gT_ := gm_ 1093 (by decide +kernel)
theorem w_1092 : Cond.instanceMethod yX7_heavierThan ∈ gT_ := gm_ 1092 (by decide +kernel)
theorem w_20 : Cond.selects "UrnHeap$Paths" yX7_heavierThan yX7_heavierThan ∈ gT_ := gm_ 20 (by decide +kernel)
theorem w_552 : Cond.code yX9_at cX9_at 2 (some .int) ∈ gT_ := gm_ 552 (by decide +kernel)
theorem w_550 : Cond.instanceMethod yX9_at ∈ gT_ := gm_ 550 (by decide +kernel)
theorem w_551 : Cond.selects "UrnHeap$Row" yX9_at yX9_at ∈ gT_ := gm_ 551 (by decide +kernel)
theorem w_31 : Cond.initialized "UrnHeap$Sexton" ∈ gT_ := gm_ 31 (by decide +kernel)
theorem w_547 : Cond.code yX10_markRoots cX10_markRoots 2 none ∈ gT_ := gm_ 547 (by decide +kernel)
theorem w_546 : Cond.instanceMethod yX10_markRoots ∈ gT_ := gm_ 546 (by decide +kernel)
theorem w_2 : Cond.selects "UrnHeap$Sexton" yX10_markRoots yX10_markRoots ∈ gT_ := gm_ 2 (by decide +kernel)
theorem w_592 : Cond.code yX10_makeRitesDue cX10_makeRitesDue 3 (some .boolean) ∈ gT_ := gm_ 592 (by decide +kernel)
theorem w_591 : Cond.instanceMethod yX10_makeRitesDue ∈ gT_ := gm_ 591 (by decide +kernel)
theorem w_6 : Cond.selects "UrnHeap$Sexton" yX10_makeRitesDue yX10_makeRitesDue ∈ gT_ := gm_ 6 (by decide +kernel)
theorem w_597 : Cond.code yX10_beginSweep cX10_beginSweep 2 none ∈ gT_ := gm_ 597 (by decide +kernel)
theorem w_596 : Cond.instanceMethod yX10_beginSweep ∈ gT_ := gm_ 596 (by decide +kernel)
theorem w_7 : Cond.selects "UrnHeap$Sexton" yX10_beginSweep yX10_beginSweep ∈ gT_ := gm_ 7 (by decide +kernel)
theorem w_586 : Cond.code yX9_takeFirst cX9_takeFirst 2 (some .int) ∈ gT_ := gm_ 586 (by decide +kernel)
theorem w_584 : Cond.instanceMethod yX9_takeFirst ∈ gT_ := gm_ 584 (by decide +kernel)
theorem w_585 : Cond.selects "UrnHeap$Row" yX9_takeFirst yX9_takeFirst ∈ gT_ := gm_ 585 (by decide +kernel)
theorem w_582 : Cond.code yX10_blackenFirst cX10_blackenFirst 3 none ∈ gT_ := gm_ 582 (by decide +kernel)
theorem w_581 : Cond.instanceMethod yX10_blackenFirst ∈ gT_ := gm_ 581 (by decide +kernel)
theorem w_5 : Cond.selects "UrnHeap$Sexton" yX10_blackenFirst yX10_blackenFirst ∈ gT_ := gm_ 5 (by decide +kernel)
theorem w_573 : Cond.code yX2_free cX2_free 3 none ∈ gT_ := gm_ 573 (by decide +kernel)
theorem w_571 : Cond.instanceMethod yX2_free ∈ gT_ := gm_ 571 (by decide +kernel)
theorem w_572 : Cond.selects "UrnHeap$Heap" yX2_free yX2_free ∈ gT_ := gm_ 572 (by decide +kernel)
theorem w_568 : Cond.code yX10_sweepNext cX10_sweepNext 2 none ∈ gT_ := gm_ 568 (by decide +kernel)
theorem w_567 : Cond.instanceMethod yX10_sweepNext ∈ gT_ := gm_ 567 (by decide +kernel)
theorem w_4 : Cond.selects "UrnHeap$Sexton" yX10_sweepNext yX10_sweepNext ∈ gT_ := gm_ 4 (by decide +kernel)
theorem w_564 : Cond.code yX10_doPartsUntilOver cX10_doPartsUntilOver 3 (some .int) ∈ gT_ := gm_ 564 (by decide +kernel)
theorem w_563 : Cond.instanceMethod yX10_doPartsUntilOver ∈ gT_ := gm_ 563 (by decide +kernel)
theorem w_3 : Cond.selects "UrnHeap$Sexton" yX10_doPartsUntilOver yX10_doPartsUntilOver ∈ gT_ := gm_ 3 (by decide +kernel)
theorem w_410 : Cond.code yX3_keepBefore cX3_keepBefore 2 none ∈ gT_ := gm_ 410 (by decide +kernel)
theorem w_408 : Cond.instanceMethod yX3_keepBefore ∈ gT_ := gm_ 408 (by decide +kernel)
theorem w_409 : Cond.selects "UrnHeap$History" yX3_keepBefore yX3_keepBefore ∈ gT_ := gm_ 409 (by decide +kernel)
theorem w_430 : Cond.code yX1_makeUrn cX1_makeUrn 3 (some .int) ∈ gT_ := gm_ 430 (by decide +kernel)
theorem w_428 : Cond.instanceMethod yX1_makeUrn ∈ gT_ := gm_ 428 (by decide +kernel)
theorem w_429 : Cond.selects "UrnHeap$Hands" yX1_makeUrn yX1_makeUrn ∈ gT_ := gm_ 429 (by decide +kernel)
theorem w_446 : Cond.code yX3_settle cX3_settle 2 (some .int) ∈ gT_ := gm_ 446 (by decide +kernel)
theorem w_444 : Cond.instanceMethod yX3_settle ∈ gT_ := gm_ 444 (by decide +kernel)
theorem w_445 : Cond.selects "UrnHeap$History" yX3_settle yX3_settle ∈ gT_ := gm_ 445 (by decide +kernel)
theorem w_460 : Cond.code yX1_tieThread cX1_tieThread 5 (some .int) ∈ gT_ := gm_ 460 (by decide +kernel)
theorem w_458 : Cond.instanceMethod yX1_tieThread ∈ gT_ := gm_ 458 (by decide +kernel)
theorem w_459 : Cond.selects "UrnHeap$Hands" yX1_tieThread yX1_tieThread ∈ gT_ := gm_ 459 (by decide +kernel)
theorem w_499 : Cond.code yX1_takeThread cX1_takeThread 4 (some .int) ∈ gT_ := gm_ 499 (by decide +kernel)
theorem w_497 : Cond.instanceMethod yX1_takeThread ∈ gT_ := gm_ 497 (by decide +kernel)
theorem w_498 : Cond.selects "UrnHeap$Hands" yX1_takeThread yX1_takeThread ∈ gT_ := gm_ 498 (by decide +kernel)
theorem w_507 : Cond.code yX1_tieWeak cX1_tieWeak 4 (some .int) ∈ gT_ := gm_ 507 (by decide +kernel)
theorem w_505 : Cond.instanceMethod yX1_tieWeak ∈ gT_ := gm_ 505 (by decide +kernel)
theorem w_506 : Cond.selects "UrnHeap$Hands" yX1_tieWeak yX1_tieWeak ∈ gT_ := gm_ 506 (by decide +kernel)
theorem w_515 : Cond.code yX1_takeWeak cX1_takeWeak 3 (some .int) ∈ gT_ := gm_ 515 (by decide +kernel)
theorem w_513 : Cond.instanceMethod yX1_takeWeak ∈ gT_ := gm_ 513 (by decide +kernel)
theorem w_514 : Cond.selects "UrnHeap$Hands" yX1_takeWeak yX1_takeWeak ∈ gT_ := gm_ 514 (by decide +kernel)
theorem w_523 : Cond.code yX1_giveName cX1_giveName 4 (some .int) ∈ gT_ := gm_ 523 (by decide +kernel)
theorem w_521 : Cond.instanceMethod yX1_giveName ∈ gT_ := gm_ 521 (by decide +kernel)
theorem w_522 : Cond.selects "UrnHeap$Hands" yX1_giveName yX1_giveName ∈ gT_ := gm_ 522 (by decide +kernel)
theorem w_534 : Cond.code yX1_takeName cX1_takeName 3 (some .int) ∈ gT_ := gm_ 534 (by decide +kernel)
theorem w_532 : Cond.instanceMethod yX1_takeName ∈ gT_ := gm_ 532 (by decide +kernel)
theorem w_533 : Cond.selects "UrnHeap$Hands" yX1_takeName yX1_takeName ∈ gT_ := gm_ 533 (by decide +kernel)
theorem w_542 : Cond.code yX10_beginRound cX10_beginRound 1 (some .int) ∈ gT_ := gm_ 542 (by decide +kernel)
theorem w_540 : Cond.instanceMethod yX10_beginRound ∈ gT_ := gm_ 540 (by decide +kernel)
theorem w_541 : Cond.selects "UrnHeap$Sexton" yX10_beginRound yX10_beginRound ∈ gT_ := gm_ 541 (by decide +kernel)
theorem w_560 : Cond.code yX10_doParts cX10_doParts 2 (some .int) ∈ gT_ := gm_ 560 (by decide +kernel)
theorem w_558 : Cond.instanceMethod yX10_doParts ∈ gT_ := gm_ 558 (by decide +kernel)
theorem w_559 : Cond.selects "UrnHeap$Sexton" yX10_doParts yX10_doParts ∈ gT_ := gm_ 559 (by decide +kernel)
theorem w_605 : Cond.code yX10_endRound cX10_endRound 2 (some .int) ∈ gT_ := gm_ 605 (by decide +kernel)
theorem w_603 : Cond.instanceMethod yX10_endRound ∈ gT_ := gm_ 603 (by decide +kernel)
theorem w_604 : Cond.selects "UrnHeap$Sexton" yX10_endRound yX10_endRound ∈ gT_ := gm_ 604 (by decide +kernel)
theorem w_613 : Cond.code yX10_doRite cX10_doRite 2 (some .int) ∈ gT_ := gm_ 613 (by decide +kernel)
theorem w_611 : Cond.instanceMethod yX10_doRite ∈ gT_ := gm_ 611 (by decide +kernel)
theorem w_612 : Cond.selects "UrnHeap$Sexton" yX10_doRite yX10_doRite ∈ gT_ := gm_ 612 (by decide +kernel)
theorem w_983 : Cond.code yX2_freedLate cX2_freedLate 2 (some .int) ∈ gT_ := gm_ 983 (by decide +kernel)
theorem w_981 : Cond.instanceMethod yX2_freedLate ∈ gT_ := gm_ 981 (by decide +kernel)
theorem w_982 : Cond.selects "UrnHeap$Heap" yX2_freedLate yX2_freedLate ∈ gT_ := gm_ 982 (by decide +kernel)
theorem w_1107 : Cond.code yX7_reachUrnByUrn cX7_reachUrnByUrn 5 (some .int) ∈ gT_ := gm_ 1107 (by decide +kernel)
theorem w_1105 : Cond.instanceMethod yX7_reachUrnByUrn ∈ gT_ := gm_ 1105 (by decide +kernel)
theorem w_1106 : Cond.selects "UrnHeap$Paths" yX7_reachUrnByUrn yX7_reachUrnByUrn ∈ gT_ := gm_ 1106 (by decide +kernel)
theorem w_1065 : Cond.code yX7_neededNames cX7_neededNames 4 (some .int) ∈ gT_ := gm_ 1065 (by decide +kernel)
theorem w_1063 : Cond.instanceMethod yX7_neededNames ∈ gT_ := gm_ 1063 (by decide +kernel)
theorem w_1064 : Cond.selects "UrnHeap$Paths" yX7_neededNames yX7_neededNames ∈ gT_ := gm_ 1064 (by decide +kernel)
theorem w_1074 : Cond.code yX7_ringLength cX7_ringLength 3 (some .int) ∈ gT_ := gm_ 1074 (by decide +kernel)
theorem w_1072 : Cond.instanceMethod yX7_ringLength ∈ gT_ := gm_ 1072 (by decide +kernel)
theorem w_1073 : Cond.selects "UrnHeap$Paths" yX7_ringLength yX7_ringLength ∈ gT_ := gm_ 1073 (by decide +kernel)
theorem w_1119 : Cond.code yX7_leftOver cX7_leftOver 4 (some .int) ∈ gT_ := gm_ 1119 (by decide +kernel)
theorem w_1117 : Cond.instanceMethod yX7_leftOver ∈ gT_ := gm_ 1117 (by decide +kernel)
theorem w_1118 : Cond.selects "UrnHeap$Paths" yX7_leftOver yX7_leftOver ∈ gT_ := gm_ 1118 (by decide +kernel)
theorem w_1083 : Cond.code yX7_urnAtRank cX7_urnAtRank 3 (some .int) ∈ gT_ := gm_ 1083 (by decide +kernel)
theorem w_1081 : Cond.instanceMethod yX7_urnAtRank ∈ gT_ := gm_ 1081 (by decide +kernel)
theorem w_1082 : Cond.selects "UrnHeap$Paths" yX7_urnAtRank yX7_urnAtRank ∈ gT_ := gm_ 1082 (by decide +kernel)
theorem w_381 : Cond.code yX2_namesInUse cX2_namesInUse 3 (some .int) ∈ gT_ := gm_ 381 (by decide +kernel)
theorem w_379 : Cond.instanceMethod yX2_namesInUse ∈ gT_ := gm_ 379 (by decide +kernel)
theorem w_380 : Cond.selects "UrnHeap$Heap" yX2_namesInUse yX2_namesInUse ∈ gT_ := gm_ 380 (by decide +kernel)
theorem w_1127 : Cond.code yX2_isSound cX2_isSound 1 (some .boolean) ∈ gT_ := gm_ 1127 (by decide +kernel)
theorem w_1125 : Cond.instanceMethod yX2_isSound ∈ gT_ := gm_ 1125 (by decide +kernel)
theorem w_1126 : Cond.selects "UrnHeap$Heap" yX2_isSound yX2_isSound ∈ gT_ := gm_ 1126 (by decide +kernel)
theorem w_1144 : Cond.code yX2_holdersOfAll cX2_holdersOfAll 3 (some .int) ∈ gT_ := gm_ 1144 (by decide +kernel)
theorem w_1142 : Cond.instanceMethod yX2_holdersOfAll ∈ gT_ := gm_ 1142 (by decide +kernel)
theorem w_1143 : Cond.selects "UrnHeap$Heap" yX2_holdersOfAll yX2_holdersOfAll ∈ gT_ := gm_ 1143 (by decide +kernel)
theorem w_1171 : Cond.code yX3_undoLatest cX3_undoLatest 1 (some .int) ∈ gT_ := gm_ 1171 (by decide +kernel)
theorem w_1169 : Cond.instanceMethod yX3_undoLatest ∈ gT_ := gm_ 1169 (by decide +kernel)
theorem w_1170 : Cond.selects "UrnHeap$History" yX3_undoLatest yX3_undoLatest ∈ gT_ := gm_ 1170 (by decide +kernel)
theorem w_1161 : Cond.code yX3_saveNow cX3_saveNow 1 (some .int) ∈ gT_ := gm_ 1161 (by decide +kernel)
theorem w_1159 : Cond.instanceMethod yX3_saveNow ∈ gT_ := gm_ 1159 (by decide +kernel)
theorem w_1160 : Cond.selects "UrnHeap$History" yX3_saveNow yX3_saveNow ∈ gT_ := gm_ 1160 (by decide +kernel)
theorem w_1180 : Cond.code yX3_restoreSaved cX3_restoreSaved 1 (some .int) ∈ gT_ := gm_ 1180 (by decide +kernel)
theorem w_1178 : Cond.instanceMethod yX3_restoreSaved ∈ gT_ := gm_ 1178 (by decide +kernel)
theorem w_1179 : Cond.selects "UrnHeap$History" yX3_restoreSaved yX3_restoreSaved ∈ gT_ := gm_ 1179 (by decide +kernel)
theorem w_946 : Cond.code yX6_has cX6_has 2 (some .boolean) ∈ gT_ := gm_ 946 (by decide +kernel)
theorem w_944 : Cond.instanceMethod yX6_has ∈ gT_ := gm_ 944 (by decide +kernel)
theorem w_945 : Cond.selects "UrnHeap$Orders" yX6_has yX6_has ∈ gT_ := gm_ 945 (by decide +kernel)
theorem ca_X8_refuse : ca_ yX8_refuse cX8_refuse 3 (some .int) 2 := ⟨w_29, w_442, by decide, by decide, by decide +kernel⟩
theorem cv_X8_refuse : cv_ yX8_refuse := ⟨w_440, w_441⟩
theorem ca_X1_colourOfNew : ca_ yX1_colourOfNew cX1_colourOfNew 3 (some .int) 1 := ⟨w_30, w_438, by decide, by decide, by decide +kernel⟩
theorem cv_X1_colourOfNew : cv_ yX1_colourOfNew := ⟨w_437, w_1⟩
theorem ca_X2_hasUrn : ca_ yX2_hasUrn cX2_hasUrn 2 (some .boolean) 1 := ⟨w_26, w_434, by decide, by decide, by decide +kernel⟩
theorem cv_X2_hasUrn : cv_ yX2_hasUrn := ⟨w_432, w_433⟩
theorem ca_X11_isSlot : ca_ yX11_isSlot cX11_isSlot 1 (some .boolean) 1 := ⟨w_25, w_463, by decide, by decide, by decide +kernel⟩
theorem cs_X11_isSlot : Cond.static yX11_isSlot ∈ gT_ := w_462
theorem ca_X2_isWhite : ca_ yX2_isWhite cX2_isWhite 2 (some .boolean) 1 := ⟨w_26, w_471, by decide, by decide, by decide +kernel⟩
theorem cv_X2_isWhite : cv_ yX2_isWhite := ⟨w_469, w_470⟩
theorem ca_X2_isToBeSwept : ca_ yX2_isToBeSwept cX2_isToBeSwept 2 (some .boolean) 1 := ⟨w_26, w_467, by decide, by decide, by decide +kernel⟩
theorem cv_X2_isToBeSwept : cv_ yX2_isToBeSwept := ⟨w_465, w_466⟩
theorem ca_X11_isCell : ca_ yX11_isCell cX11_isCell 1 (some .boolean) 1 := ⟨w_25, w_478, by decide, by decide, by decide +kernel⟩
theorem cs_X11_isCell : Cond.static yX11_isCell ∈ gT_ := w_477
theorem ca_X2_target : ca_ yX2_target cX2_target 3 (some .int) 2 := ⟨w_26, w_475, by decide, by decide, by decide +kernel⟩
theorem cv_X2_target : cv_ yX2_target := ⟨w_473, w_474⟩
theorem ca_X9_addLast : ca_ yX9_addLast cX9_addLast 2 none 1 := ⟨w_27, w_491, by decide, by decide, by decide +kernel⟩
theorem cv_X9_addLast : cv_ yX9_addLast := ⟨w_489, w_490⟩
theorem ca_X2_makeGrey : ca_ yX2_makeGrey cX2_makeGrey 2 none 1 := ⟨w_26, w_487, by decide, by decide, by decide +kernel⟩
theorem cv_X2_makeGrey : cv_ yX2_makeGrey := ⟨w_485, w_486⟩
theorem ca_X2_makeGreyInRound : ca_ yX2_makeGreyInRound cX2_makeGreyInRound 2 none 1 := ⟨w_26, w_483, by decide, by decide, by decide +kernel⟩
theorem cv_X2_makeGreyInRound : cv_ yX2_makeGreyInRound := ⟨w_481, w_482⟩
theorem ca_X11_isName : ca_ yX11_isName cX11_isName 1 (some .boolean) 1 := ⟨w_25, w_526, by decide, by decide, by decide +kernel⟩
theorem cs_X11_isName : Cond.static yX11_isName ∈ gT_ := w_525
theorem ca_X2_urnsOf : ca_ yX2_urnsOf cX2_urnsOf 4 (some .int) 1 := ⟨w_26, w_376, by decide, by decide, by decide +kernel⟩
theorem cv_X2_urnsOf : cv_ yX2_urnsOf := ⟨w_374, w_375⟩
theorem ca_X2_holdersOf : ca_ yX2_holdersOf cX2_holdersOf 4 (some .int) 1 := ⟨w_26, w_997, by decide, by decide, by decide +kernel⟩
theorem cv_X2_holdersOf : cv_ yX2_holdersOf := ⟨w_995, w_996⟩
theorem ca_J9_floorMod_7cf53 : ca_ yJ9_floorMod_7cf53 cJ9_floorMod_7cf53 3 (some .int) 2 := ⟨w_41, w_577, by decide, by decide, by decide +kernel⟩
theorem cs_J9_floorMod_7cf53 : Cond.static yJ9_floorMod_7cf53 ∈ gT_ := w_576
theorem ca_X2_urns : ca_ yX2_urns cX2_urns 1 (some .int) 0 := ⟨w_26, w_372, by decide, by decide, by decide +kernel⟩
theorem cv_X2_urns : cv_ yX2_urns := ⟨w_370, w_371⟩
theorem ca_X2_areUrns : ca_ yX2_areUrns cX2_areUrns 6 (some .boolean) 1 := ⟨w_26, w_1132, by decide, by decide, by decide +kernel⟩
theorem cv_X2_areUrns : cv_ yX2_areUrns := ⟨w_1131, w_22⟩
theorem ca_X2_hasBlackToWhite : ca_ yX2_hasBlackToWhite cX2_hasBlackToWhite 2 (some .boolean) 0 := ⟨w_26, w_1136, by decide, by decide, by decide +kernel⟩
theorem cv_X2_hasBlackToWhite : cv_ yX2_hasBlackToWhite := ⟨w_1135, w_23⟩
theorem ca_X3_copyAtNext : ca_ yX3_copyAtNext cX3_copyAtNext 1 (some (.object "UrnHeap$Heap")) 0 := ⟨w_33, w_414, by decide, by decide, by decide +kernel⟩
theorem cv_X3_copyAtNext : cv_ yX3_copyAtNext := ⟨w_413, w_0⟩
theorem ca_X9_copyFrom : ca_ yX9_copyFrom cX9_copyFrom 2 none 1 := ⟨w_27, w_425, by decide, by decide, by decide +kernel⟩
theorem cv_X9_copyFrom : cv_ yX9_copyFrom := ⟨w_423, w_424⟩
theorem ca_X2_copyFrom : ca_ yX2_copyFrom cX2_copyFrom 2 none 1 := ⟨w_26, w_418, by decide, by decide, by decide +kernel⟩
theorem cv_X2_copyFrom : cv_ yX2_copyFrom := ⟨w_416, w_417⟩
theorem ca_X3_isRefusal : ca_ yX3_isRefusal cX3_isRefusal 1 (some .boolean) 1 := ⟨w_33, w_449, by decide, by decide, by decide +kernel⟩
theorem cs_X3_isRefusal : Cond.static yX3_isRefusal ∈ gT_ := w_448
theorem ca_X3_takeBack : ca_ yX3_takeBack cX3_takeBack 2 none 0 := ⟨w_33, w_959, by decide, by decide, by decide +kernel⟩
theorem cv_X3_takeBack : cv_ yX3_takeBack := ⟨w_957, w_958⟩
theorem ca_X6_keep : ca_ yX6_keep cX6_keep 2 none 1 := ⟨w_34, w_913, by decide, by decide, by decide +kernel⟩
theorem cv_X6_keep : cv_ yX6_keep := ⟨w_912, w_13⟩
theorem ca_X7_bit : ca_ yX7_bit cX7_bit 1 (some .int) 1 := ⟨w_32, w_1031, by decide, by decide, by decide +kernel⟩
theorem cs_X7_bit : Cond.static yX7_bit ∈ gT_ := w_1030
theorem ca_X7_rootsByRite : ca_ yX7_rootsByRite cX7_rootsByRite 4 (some .int) 1 := ⟨w_32, w_1027, by decide, by decide, by decide +kernel⟩
theorem cv_X7_rootsByRite : cv_ yX7_rootsByRite := ⟨w_1026, w_15⟩
theorem ca_X7_roots : ca_ yX7_roots cX7_roots 4 (some .int) 1 := ⟨w_32, w_1023, by decide, by decide, by decide +kernel⟩
theorem cv_X7_roots : cv_ yX7_roots := ⟨w_1021, w_1022⟩
theorem ca_X7_isIn : ca_ yX7_isIn cX7_isIn 2 (some .boolean) 2 := ⟨w_32, w_1043, by decide, by decide, by decide +kernel⟩
theorem cs_X7_isIn : Cond.static yX7_isIn ∈ gT_ := w_1042
theorem ca_X7_targets : ca_ yX7_targets cX7_targets 4 (some .int) 1 := ⟨w_32, w_1047, by decide, by decide, by decide +kernel⟩
theorem cv_X7_targets : cv_ yX7_targets := ⟨w_1046, w_18⟩
theorem ca_X7_targetsOfAll : ca_ yX7_targetsOfAll cX7_targetsOfAll 4 (some .int) 1 := ⟨w_32, w_1040, by decide, by decide, by decide +kernel⟩
theorem cv_X7_targetsOfAll : cv_ yX7_targetsOfAll := ⟨w_1039, w_17⟩
theorem ca_X7_reachFrom : ca_ yX7_reachFrom cX7_reachFrom 5 (some .int) 1 := ⟨w_32, w_1036, by decide, by decide, by decide +kernel⟩
theorem cv_X7_reachFrom : cv_ yX7_reachFrom := ⟨w_1035, w_16⟩
theorem ca_X7_isHeldBySome : ca_ yX7_isHeldBySome cX7_isHeldBySome 4 (some .boolean) 2 := ⟨w_32, w_1111, by decide, by decide, by decide +kernel⟩
theorem cv_X7_isHeldBySome : cv_ yX7_isHeldBySome := ⟨w_1110, w_21⟩
theorem ca_X7_reach : ca_ yX7_reach cX7_reach 1 (some .int) 0 := ⟨w_32, w_1019, by decide, by decide, by decide +kernel⟩
theorem cv_X7_reach : cv_ yX7_reach := ⟨w_1017, w_1018⟩
theorem ca_X7_distance : ca_ yX7_distance cX7_distance 6 (some .int) 2 := ⟨w_32, w_1057, by decide, by decide, by decide +kernel⟩
theorem cv_X7_distance : cv_ yX7_distance := ⟨w_1055, w_1056⟩
theorem ca_X2_threadsFrom : ca_ yX2_threadsFrom cX2_threadsFrom 4 (some .int) 1 := ⟨w_26, w_992, by decide, by decide, by decide +kernel⟩
theorem cv_X2_threadsFrom : cv_ yX2_threadsFrom := ⟨w_990, w_991⟩
theorem ca_X7_weighAll : ca_ yX7_weighAll cX7_weighAll 4 none 0 := ⟨w_32, w_1087, by decide, by decide, by decide +kernel⟩
theorem cv_X7_weighAll : cv_ yX7_weighAll := ⟨w_1086, w_19⟩
theorem ca_X7_heavierThan : ca_ yX7_heavierThan cX7_heavierThan 7 (some .int) 1 := ⟨w_32, w_1093, by decide, by decide, by decide +kernel⟩
theorem cv_X7_heavierThan : cv_ yX7_heavierThan := ⟨w_1092, w_20⟩
theorem ca_X9_at : ca_ yX9_at cX9_at 2 (some .int) 1 := ⟨w_27, w_552, by decide, by decide, by decide +kernel⟩
theorem cv_X9_at : cv_ yX9_at := ⟨w_550, w_551⟩
theorem ca_X10_markRoots : ca_ yX10_markRoots cX10_markRoots 2 none 0 := ⟨w_31, w_547, by decide, by decide, by decide +kernel⟩
theorem cv_X10_markRoots : cv_ yX10_markRoots := ⟨w_546, w_2⟩
theorem ca_X10_makeRitesDue : ca_ yX10_makeRitesDue cX10_makeRitesDue 3 (some .boolean) 0 := ⟨w_31, w_592, by decide, by decide, by decide +kernel⟩
theorem cv_X10_makeRitesDue : cv_ yX10_makeRitesDue := ⟨w_591, w_6⟩
theorem ca_X10_beginSweep : ca_ yX10_beginSweep cX10_beginSweep 2 none 0 := ⟨w_31, w_597, by decide, by decide, by decide +kernel⟩
theorem cv_X10_beginSweep : cv_ yX10_beginSweep := ⟨w_596, w_7⟩
theorem ca_X9_takeFirst : ca_ yX9_takeFirst cX9_takeFirst 2 (some .int) 0 := ⟨w_27, w_586, by decide, by decide, by decide +kernel⟩
theorem cv_X9_takeFirst : cv_ yX9_takeFirst := ⟨w_584, w_585⟩
theorem ca_X10_blackenFirst : ca_ yX10_blackenFirst cX10_blackenFirst 3 none 0 := ⟨w_31, w_582, by decide, by decide, by decide +kernel⟩
theorem cv_X10_blackenFirst : cv_ yX10_blackenFirst := ⟨w_581, w_5⟩
theorem ca_X2_free : ca_ yX2_free cX2_free 3 none 1 := ⟨w_26, w_573, by decide, by decide, by decide +kernel⟩
theorem cv_X2_free : cv_ yX2_free := ⟨w_571, w_572⟩
theorem ca_X10_sweepNext : ca_ yX10_sweepNext cX10_sweepNext 2 none 0 := ⟨w_31, w_568, by decide, by decide, by decide +kernel⟩
theorem cv_X10_sweepNext : cv_ yX10_sweepNext := ⟨w_567, w_4⟩
theorem ca_X10_doPartsUntilOver : ca_ yX10_doPartsUntilOver cX10_doPartsUntilOver 3 (some .int) 1 := ⟨w_31, w_564, by decide, by decide, by decide +kernel⟩
theorem cv_X10_doPartsUntilOver : cv_ yX10_doPartsUntilOver := ⟨w_563, w_3⟩
theorem ca_X3_keepBefore : ca_ yX3_keepBefore cX3_keepBefore 2 none 0 := ⟨w_33, w_410, by decide, by decide, by decide +kernel⟩
theorem cv_X3_keepBefore : cv_ yX3_keepBefore := ⟨w_408, w_409⟩
theorem ca_X1_makeUrn : ca_ yX1_makeUrn cX1_makeUrn 3 (some .int) 1 := ⟨w_30, w_430, by decide, by decide, by decide +kernel⟩
theorem cv_X1_makeUrn : cv_ yX1_makeUrn := ⟨w_428, w_429⟩
theorem ca_X3_settle : ca_ yX3_settle cX3_settle 2 (some .int) 1 := ⟨w_33, w_446, by decide, by decide, by decide +kernel⟩
theorem cv_X3_settle : cv_ yX3_settle := ⟨w_444, w_445⟩
theorem ca_X1_tieThread : ca_ yX1_tieThread cX1_tieThread 5 (some .int) 3 := ⟨w_30, w_460, by decide, by decide, by decide +kernel⟩
theorem cv_X1_tieThread : cv_ yX1_tieThread := ⟨w_458, w_459⟩
theorem ca_X1_takeThread : ca_ yX1_takeThread cX1_takeThread 4 (some .int) 2 := ⟨w_30, w_499, by decide, by decide, by decide +kernel⟩
theorem cv_X1_takeThread : cv_ yX1_takeThread := ⟨w_497, w_498⟩
theorem ca_X1_tieWeak : ca_ yX1_tieWeak cX1_tieWeak 4 (some .int) 2 := ⟨w_30, w_507, by decide, by decide, by decide +kernel⟩
theorem cv_X1_tieWeak : cv_ yX1_tieWeak := ⟨w_505, w_506⟩
theorem ca_X1_takeWeak : ca_ yX1_takeWeak cX1_takeWeak 3 (some .int) 1 := ⟨w_30, w_515, by decide, by decide, by decide +kernel⟩
theorem cv_X1_takeWeak : cv_ yX1_takeWeak := ⟨w_513, w_514⟩
theorem ca_X1_giveName : ca_ yX1_giveName cX1_giveName 4 (some .int) 2 := ⟨w_30, w_523, by decide, by decide, by decide +kernel⟩
theorem cv_X1_giveName : cv_ yX1_giveName := ⟨w_521, w_522⟩
theorem ca_X1_takeName : ca_ yX1_takeName cX1_takeName 3 (some .int) 1 := ⟨w_30, w_534, by decide, by decide, by decide +kernel⟩
theorem cv_X1_takeName : cv_ yX1_takeName := ⟨w_532, w_533⟩
theorem ca_X10_beginRound : ca_ yX10_beginRound cX10_beginRound 1 (some .int) 0 := ⟨w_31, w_542, by decide, by decide, by decide +kernel⟩
theorem cv_X10_beginRound : cv_ yX10_beginRound := ⟨w_540, w_541⟩
theorem ca_X10_doParts : ca_ yX10_doParts cX10_doParts 2 (some .int) 1 := ⟨w_31, w_560, by decide, by decide, by decide +kernel⟩
theorem cv_X10_doParts : cv_ yX10_doParts := ⟨w_558, w_559⟩
theorem ca_X10_endRound : ca_ yX10_endRound cX10_endRound 2 (some .int) 0 := ⟨w_31, w_605, by decide, by decide, by decide +kernel⟩
theorem cv_X10_endRound : cv_ yX10_endRound := ⟨w_603, w_604⟩
theorem ca_X10_doRite : ca_ yX10_doRite cX10_doRite 2 (some .int) 0 := ⟨w_31, w_613, by decide, by decide, by decide +kernel⟩
theorem cv_X10_doRite : cv_ yX10_doRite := ⟨w_611, w_612⟩
theorem ca_X2_freedLate : ca_ yX2_freedLate cX2_freedLate 2 (some .int) 1 := ⟨w_26, w_983, by decide, by decide, by decide +kernel⟩
theorem cv_X2_freedLate : cv_ yX2_freedLate := ⟨w_981, w_982⟩
theorem ca_X7_reachUrnByUrn : ca_ yX7_reachUrnByUrn cX7_reachUrnByUrn 5 (some .int) 0 := ⟨w_32, w_1107, by decide, by decide, by decide +kernel⟩
theorem cv_X7_reachUrnByUrn : cv_ yX7_reachUrnByUrn := ⟨w_1105, w_1106⟩
theorem ca_X7_neededNames : ca_ yX7_neededNames cX7_neededNames 4 (some .int) 1 := ⟨w_32, w_1065, by decide, by decide, by decide +kernel⟩
theorem cv_X7_neededNames : cv_ yX7_neededNames := ⟨w_1063, w_1064⟩
theorem ca_X7_ringLength : ca_ yX7_ringLength cX7_ringLength 3 (some .int) 1 := ⟨w_32, w_1074, by decide, by decide, by decide +kernel⟩
theorem cv_X7_ringLength : cv_ yX7_ringLength := ⟨w_1072, w_1073⟩
theorem ca_X7_leftOver : ca_ yX7_leftOver cX7_leftOver 4 (some .int) 0 := ⟨w_32, w_1119, by decide, by decide, by decide +kernel⟩
theorem cv_X7_leftOver : cv_ yX7_leftOver := ⟨w_1117, w_1118⟩
theorem ca_X7_urnAtRank : ca_ yX7_urnAtRank cX7_urnAtRank 3 (some .int) 1 := ⟨w_32, w_1083, by decide, by decide, by decide +kernel⟩
theorem cv_X7_urnAtRank : cv_ yX7_urnAtRank := ⟨w_1081, w_1082⟩
theorem ca_X2_namesInUse : ca_ yX2_namesInUse cX2_namesInUse 3 (some .int) 0 := ⟨w_26, w_381, by decide, by decide, by decide +kernel⟩
theorem cv_X2_namesInUse : cv_ yX2_namesInUse := ⟨w_379, w_380⟩
theorem ca_X2_isSound : ca_ yX2_isSound cX2_isSound 1 (some .boolean) 0 := ⟨w_26, w_1127, by decide, by decide, by decide +kernel⟩
theorem cv_X2_isSound : cv_ yX2_isSound := ⟨w_1125, w_1126⟩
theorem ca_X2_holdersOfAll : ca_ yX2_holdersOfAll cX2_holdersOfAll 3 (some .int) 0 := ⟨w_26, w_1144, by decide, by decide, by decide +kernel⟩
theorem cv_X2_holdersOfAll : cv_ yX2_holdersOfAll := ⟨w_1142, w_1143⟩
theorem ca_X3_undoLatest : ca_ yX3_undoLatest cX3_undoLatest 1 (some .int) 0 := ⟨w_33, w_1171, by decide, by decide, by decide +kernel⟩
theorem cv_X3_undoLatest : cv_ yX3_undoLatest := ⟨w_1169, w_1170⟩
theorem ca_X3_saveNow : ca_ yX3_saveNow cX3_saveNow 1 (some .int) 0 := ⟨w_33, w_1161, by decide, by decide, by decide +kernel⟩
theorem cv_X3_saveNow : cv_ yX3_saveNow := ⟨w_1159, w_1160⟩
theorem ca_X3_restoreSaved : ca_ yX3_restoreSaved cX3_restoreSaved 1 (some .int) 0 := ⟨w_33, w_1180, by decide, by decide, by decide +kernel⟩
theorem cv_X3_restoreSaved : cv_ yX3_restoreSaved := ⟨w_1178, w_1179⟩
theorem ca_X6_has : ca_ yX6_has cX6_has 2 (some .boolean) 1 := ⟨w_34, w_946, by decide, by decide, by decide +kernel⟩
theorem cv_X6_has : cv_ yX6_has := ⟨w_944, w_945⟩
