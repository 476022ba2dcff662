/-! the program: its cells, its pure functions, their contracts (written by wip/gen/xgen.py) -/
def ceH (G : gp_) (ad : Nat → Nat) (i j : Nat) (row : Int → Int) : va_E := match j with
  | 0 => .inr (2, [.ref (ad (12 * i + 1)), .ref (ad (12 * i + 2)), .ref (ad (12 * i + 3)), .ref (ad (12 * i + 4)), .ref (ad (12 * i + 5)), .ref (ad (12 * i + 6)), .ref (ad (12 * i + 7)), .ref (ad (12 * i + 8)), .ref (ad (12 * i + 10)), .int (iI (row 9)), .int (iI (row 10)), .int (iI (row 11)), .int (iI (row 12)), .int (iI (row 13)), .int (iI (row 14)), .int (iI (row 15)), .int (iI (row 16))])
  | 1 => .inl (G.1.1 100, 96, .inl (fun j => iI (row (j : Nat))))
  | 2 => .inl (G.1.1 100, 24, .inl (fun j => iI (row (j : Nat))))
  | 3 => .inl (G.1.1 100, 24, .inl (fun j => iI (row (j : Nat))))
  | 4 => .inl (G.1.1 100, 24, .inl (fun j => iI (row (j : Nat))))
  | 5 => .inl (G.1.1 100, 24, .inl (fun j => iI (row (j : Nat))))
  | 6 => .inl (G.1.1 100, 6, .inl (fun j => iI (row (j : Nat))))
  | 7 => .inl (G.1.1 100, 12, .inl (fun j => iI (row (j : Nat))))
  | 8 => .inr (8, [.ref (ad (12 * i + 9)), .int (iI (row 1))])
  | 9 => .inl (G.1.1 100, 24, .inl (fun j => iI (row (j : Nat))))
  | 10 => .inr (8, [.ref (ad (12 * i + 11)), .int (iI (row 1))])
  | _ => .inl (G.1.1 100, 24, .inl (fun j => iI (row (j : Nat))))
def ceO (G : gp_) (ad : Nat → Nat) (j : Nat) (row : Int → Int) : va_E := match j with
  | 0 => .inr (10, [.ref (ad 0), .ref (ad 133), .ref (ad 134), .ref (ad 135), .ref (ad 136), .ref (ad 138), .ref (ad 140), .ref (ad 148)])
  | 1 => .inr (7, [.int (iI (row 0)), .int (iI (row 1))])
  | 2 => .inr (1, [.ref (ad 0), .ref (ad 133)])
  | 3 => .inr (9, [.ref (ad 0), .ref (ad 133)])
  | 4 => .inr (6, [.ref (ad 0), .ref (ad 137)])
  | 5 => .inl (G.1.1 100, 24, .inl (fun j => iI (row (j : Nat))))
  | 6 => .inr (3, [.ref (ad 0), .ref (ad 139), .ref (ad 120), .int (iI (row 3)), .int (iI (row 4)), .int (iI (row 5))])
  | 7 => .inl (G.1.1 102, 9, .inr (.inr (.inr (.inr (fun j => some (ad (12 * (j + 1))))))))
  | 8 => .inr (5, [.ref (ad 141), .ref (ad 143), .ref (ad 144), .ref (ad 145), .ref (ad 146), .int (iI (row 5)), .ref (ad 147), .int (iI (row 7))])
  | 9 => .inr (0, [.ref (ad 142), .int (iI (row 1)), .int (iI (row 2)), .int (iI (row 3))])
  | 10 => .inl (G.1.1 101, (row (-1)).toNat, .inl (fun j => iI (row (j : Nat))))
  | 11 => .inl (G.1.1 103, 60, .inr (.inr (.inr (.inr (fun j => kv_ G (row (j : Nat)))))))
  | 12 => .inl (G.1.1 100, 60, .inl (fun j => iI (row (j : Nat))))
  | 13 => .inl (G.1.1 100, 60, .inl (fun j => iI (row (j : Nat))))
  | 14 => .inl (G.1.1 100, 60, .inl (fun j => iI (row (j : Nat))))
  | 15 => .inl (G.1.1 100, 3, .inl (fun j => iI (row (j : Nat))))
  | 16 => .inr (4, [.ref (ad 149)])
  | 17 => .inr (0, [.ref (ad 150), .int (iI (row 1)), .int (iI (row 2)), .int (iI (row 3))])
  | _ => .inl (G.1.1 101, (row (-1)).toNat, .inl (fun j => iI (row (j : Nat))))
def ceX (G : gp_) (ad : Nat → Nat) (k : Nat) (row : Int → Int) : va_E := if k < 132 then ceH G ad (k / 12) (k % 12) row else ceO G ad (k - 132) row
theorem ceXh_0 (G : gp_) (ad : Nat → Nat) (row : Int → Int) (i : Nat) (hi : i < 11) : ceX G ad (12 * i + 0) row = .inr (2, [.ref (ad (12 * i + 1)), .ref (ad (12 * i + 2)), .ref (ad (12 * i + 3)), .ref (ad (12 * i + 4)), .ref (ad (12 * i + 5)), .ref (ad (12 * i + 6)), .ref (ad (12 * i + 7)), .ref (ad (12 * i + 8)), .ref (ad (12 * i + 10)), .int (iI (row 9)), .int (iI (row 10)), .int (iI (row 11)), .int (iI (row 12)), .int (iI (row 13)), .int (iI (row 14)), .int (iI (row 15)), .int (iI (row 16))]) := by
  unfold ceX
  rw [if_pos (by omega), show (12 * i + 0) / 12 = i by omega, show (12 * i + 0) % 12 = 0 by omega]
  rfl
theorem ceXh_1 (G : gp_) (ad : Nat → Nat) (row : Int → Int) (i : Nat) (hi : i < 11) : ceX G ad (12 * i + 1) row = .inl (G.1.1 100, 96, .inl (fun j => iI (row (j : Nat)))) := by
  unfold ceX
  rw [if_pos (by omega), show (12 * i + 1) / 12 = i by omega, show (12 * i + 1) % 12 = 1 by omega]
  rfl
theorem ceXh_2 (G : gp_) (ad : Nat → Nat) (row : Int → Int) (i : Nat) (hi : i < 11) : ceX G ad (12 * i + 2) row = .inl (G.1.1 100, 24, .inl (fun j => iI (row (j : Nat)))) := by
  unfold ceX
  rw [if_pos (by omega), show (12 * i + 2) / 12 = i by omega, show (12 * i + 2) % 12 = 2 by omega]
  rfl
theorem ceXh_3 (G : gp_) (ad : Nat → Nat) (row : Int → Int) (i : Nat) (hi : i < 11) : ceX G ad (12 * i + 3) row = .inl (G.1.1 100, 24, .inl (fun j => iI (row (j : Nat)))) := by
  unfold ceX
  rw [if_pos (by omega), show (12 * i + 3) / 12 = i by omega, show (12 * i + 3) % 12 = 3 by omega]
  rfl
theorem ceXh_4 (G : gp_) (ad : Nat → Nat) (row : Int → Int) (i : Nat) (hi : i < 11) : ceX G ad (12 * i + 4) row = .inl (G.1.1 100, 24, .inl (fun j => iI (row (j : Nat)))) := by
  unfold ceX
  rw [if_pos (by omega), show (12 * i + 4) / 12 = i by omega, show (12 * i + 4) % 12 = 4 by omega]
  rfl
theorem ceXh_5 (G : gp_) (ad : Nat → Nat) (row : Int → Int) (i : Nat) (hi : i < 11) : ceX G ad (12 * i + 5) row = .inl (G.1.1 100, 24, .inl (fun j => iI (row (j : Nat)))) := by
  unfold ceX
  rw [if_pos (by omega), show (12 * i + 5) / 12 = i by omega, show (12 * i + 5) % 12 = 5 by omega]
  rfl
theorem ceXh_6 (G : gp_) (ad : Nat → Nat) (row : Int → Int) (i : Nat) (hi : i < 11) : ceX G ad (12 * i + 6) row = .inl (G.1.1 100, 6, .inl (fun j => iI (row (j : Nat)))) := by
  unfold ceX
  rw [if_pos (by omega), show (12 * i + 6) / 12 = i by omega, show (12 * i + 6) % 12 = 6 by omega]
  rfl
theorem ceXh_7 (G : gp_) (ad : Nat → Nat) (row : Int → Int) (i : Nat) (hi : i < 11) : ceX G ad (12 * i + 7) row = .inl (G.1.1 100, 12, .inl (fun j => iI (row (j : Nat)))) := by
  unfold ceX
  rw [if_pos (by omega), show (12 * i + 7) / 12 = i by omega, show (12 * i + 7) % 12 = 7 by omega]
  rfl
theorem ceXh_8 (G : gp_) (ad : Nat → Nat) (row : Int → Int) (i : Nat) (hi : i < 11) : ceX G ad (12 * i + 8) row = .inr (8, [.ref (ad (12 * i + 9)), .int (iI (row 1))]) := by
  unfold ceX
  rw [if_pos (by omega), show (12 * i + 8) / 12 = i by omega, show (12 * i + 8) % 12 = 8 by omega]
  rfl
theorem ceXh_9 (G : gp_) (ad : Nat → Nat) (row : Int → Int) (i : Nat) (hi : i < 11) : ceX G ad (12 * i + 9) row = .inl (G.1.1 100, 24, .inl (fun j => iI (row (j : Nat)))) := by
  unfold ceX
  rw [if_pos (by omega), show (12 * i + 9) / 12 = i by omega, show (12 * i + 9) % 12 = 9 by omega]
  rfl
theorem ceXh_10 (G : gp_) (ad : Nat → Nat) (row : Int → Int) (i : Nat) (hi : i < 11) : ceX G ad (12 * i + 10) row = .inr (8, [.ref (ad (12 * i + 11)), .int (iI (row 1))]) := by
  unfold ceX
  rw [if_pos (by omega), show (12 * i + 10) / 12 = i by omega, show (12 * i + 10) % 12 = 10 by omega]
  rfl
theorem ceXh_11 (G : gp_) (ad : Nat → Nat) (row : Int → Int) (i : Nat) (hi : i < 11) : ceX G ad (12 * i + 11) row = .inl (G.1.1 100, 24, .inl (fun j => iI (row (j : Nat)))) := by
  unfold ceX
  rw [if_pos (by omega), show (12 * i + 11) / 12 = i by omega, show (12 * i + 11) % 12 = 11 by omega]
  rfl
theorem ceX_0 (G : gp_) (ad : Nat → Nat) (row : Int → Int) : ceX G ad 0 row = .inr (2, [.ref (ad 1), .ref (ad 2), .ref (ad 3), .ref (ad 4), .ref (ad 5), .ref (ad 6), .ref (ad 7), .ref (ad 8), .ref (ad 10), .int (iI (row 9)), .int (iI (row 10)), .int (iI (row 11)), .int (iI (row 12)), .int (iI (row 13)), .int (iI (row 14)), .int (iI (row 15)), .int (iI (row 16))]) := rfl
theorem ceX_1 (G : gp_) (ad : Nat → Nat) (row : Int → Int) : ceX G ad 1 row = .inl (G.1.1 100, 96, .inl (fun j => iI (row (j : Nat)))) := rfl
theorem ceX_2 (G : gp_) (ad : Nat → Nat) (row : Int → Int) : ceX G ad 2 row = .inl (G.1.1 100, 24, .inl (fun j => iI (row (j : Nat)))) := rfl
theorem ceX_3 (G : gp_) (ad : Nat → Nat) (row : Int → Int) : ceX G ad 3 row = .inl (G.1.1 100, 24, .inl (fun j => iI (row (j : Nat)))) := rfl
theorem ceX_4 (G : gp_) (ad : Nat → Nat) (row : Int → Int) : ceX G ad 4 row = .inl (G.1.1 100, 24, .inl (fun j => iI (row (j : Nat)))) := rfl
theorem ceX_5 (G : gp_) (ad : Nat → Nat) (row : Int → Int) : ceX G ad 5 row = .inl (G.1.1 100, 24, .inl (fun j => iI (row (j : Nat)))) := rfl
theorem ceX_6 (G : gp_) (ad : Nat → Nat) (row : Int → Int) : ceX G ad 6 row = .inl (G.1.1 100, 6, .inl (fun j => iI (row (j : Nat)))) := rfl
theorem ceX_7 (G : gp_) (ad : Nat → Nat) (row : Int → Int) : ceX G ad 7 row = .inl (G.1.1 100, 12, .inl (fun j => iI (row (j : Nat)))) := rfl
theorem ceX_8 (G : gp_) (ad : Nat → Nat) (row : Int → Int) : ceX G ad 8 row = .inr (8, [.ref (ad 9), .int (iI (row 1))]) := rfl
theorem ceX_9 (G : gp_) (ad : Nat → Nat) (row : Int → Int) : ceX G ad 9 row = .inl (G.1.1 100, 24, .inl (fun j => iI (row (j : Nat)))) := rfl
theorem ceX_10 (G : gp_) (ad : Nat → Nat) (row : Int → Int) : ceX G ad 10 row = .inr (8, [.ref (ad 11), .int (iI (row 1))]) := rfl
theorem ceX_11 (G : gp_) (ad : Nat → Nat) (row : Int → Int) : ceX G ad 11 row = .inl (G.1.1 100, 24, .inl (fun j => iI (row (j : Nat)))) := rfl
theorem ceX_120 (G : gp_) (ad : Nat → Nat) (row : Int → Int) : ceX G ad 120 row = .inr (2, [.ref (ad 121), .ref (ad 122), .ref (ad 123), .ref (ad 124), .ref (ad 125), .ref (ad 126), .ref (ad 127), .ref (ad 128), .ref (ad 130), .int (iI (row 9)), .int (iI (row 10)), .int (iI (row 11)), .int (iI (row 12)), .int (iI (row 13)), .int (iI (row 14)), .int (iI (row 15)), .int (iI (row 16))]) := rfl
theorem ceX_121 (G : gp_) (ad : Nat → Nat) (row : Int → Int) : ceX G ad 121 row = .inl (G.1.1 100, 96, .inl (fun j => iI (row (j : Nat)))) := rfl
theorem ceX_122 (G : gp_) (ad : Nat → Nat) (row : Int → Int) : ceX G ad 122 row = .inl (G.1.1 100, 24, .inl (fun j => iI (row (j : Nat)))) := rfl
theorem ceX_123 (G : gp_) (ad : Nat → Nat) (row : Int → Int) : ceX G ad 123 row = .inl (G.1.1 100, 24, .inl (fun j => iI (row (j : Nat)))) := rfl
theorem ceX_124 (G : gp_) (ad : Nat → Nat) (row : Int → Int) : ceX G ad 124 row = .inl (G.1.1 100, 24, .inl (fun j => iI (row (j : Nat)))) := rfl
theorem ceX_125 (G : gp_) (ad : Nat → Nat) (row : Int → Int) : ceX G ad 125 row = .inl (G.1.1 100, 24, .inl (fun j => iI (row (j : Nat)))) := rfl
theorem ceX_126 (G : gp_) (ad : Nat → Nat) (row : Int → Int) : ceX G ad 126 row = .inl (G.1.1 100, 6, .inl (fun j => iI (row (j : Nat)))) := rfl
theorem ceX_127 (G : gp_) (ad : Nat → Nat) (row : Int → Int) : ceX G ad 127 row = .inl (G.1.1 100, 12, .inl (fun j => iI (row (j : Nat)))) := rfl
theorem ceX_128 (G : gp_) (ad : Nat → Nat) (row : Int → Int) : ceX G ad 128 row = .inr (8, [.ref (ad 129), .int (iI (row 1))]) := rfl
theorem ceX_129 (G : gp_) (ad : Nat → Nat) (row : Int → Int) : ceX G ad 129 row = .inl (G.1.1 100, 24, .inl (fun j => iI (row (j : Nat)))) := rfl
theorem ceX_130 (G : gp_) (ad : Nat → Nat) (row : Int → Int) : ceX G ad 130 row = .inr (8, [.ref (ad 131), .int (iI (row 1))]) := rfl
theorem ceX_131 (G : gp_) (ad : Nat → Nat) (row : Int → Int) : ceX G ad 131 row = .inl (G.1.1 100, 24, .inl (fun j => iI (row (j : Nat)))) := rfl
theorem ceX_132 (G : gp_) (ad : Nat → Nat) (row : Int → Int) : ceX G ad 132 row = .inr (10, [.ref (ad 0), .ref (ad 133), .ref (ad 134), .ref (ad 135), .ref (ad 136), .ref (ad 138), .ref (ad 140), .ref (ad 148)]) := rfl
theorem ceX_133 (G : gp_) (ad : Nat → Nat) (row : Int → Int) : ceX G ad 133 row = .inr (7, [.int (iI (row 0)), .int (iI (row 1))]) := rfl
theorem ceX_134 (G : gp_) (ad : Nat → Nat) (row : Int → Int) : ceX G ad 134 row = .inr (1, [.ref (ad 0), .ref (ad 133)]) := rfl
theorem ceX_135 (G : gp_) (ad : Nat → Nat) (row : Int → Int) : ceX G ad 135 row = .inr (9, [.ref (ad 0), .ref (ad 133)]) := rfl
theorem ceX_136 (G : gp_) (ad : Nat → Nat) (row : Int → Int) : ceX G ad 136 row = .inr (6, [.ref (ad 0), .ref (ad 137)]) := rfl
theorem ceX_137 (G : gp_) (ad : Nat → Nat) (row : Int → Int) : ceX G ad 137 row = .inl (G.1.1 100, 24, .inl (fun j => iI (row (j : Nat)))) := rfl
theorem ceX_138 (G : gp_) (ad : Nat → Nat) (row : Int → Int) : ceX G ad 138 row = .inr (3, [.ref (ad 0), .ref (ad 139), .ref (ad 120), .int (iI (row 3)), .int (iI (row 4)), .int (iI (row 5))]) := rfl
theorem ceX_139 (G : gp_) (ad : Nat → Nat) (row : Int → Int) : ceX G ad 139 row = .inl (G.1.1 102, 9, .inr (.inr (.inr (.inr (fun j => some (ad (12 * (j + 1)))))))) := rfl
theorem ceX_140 (G : gp_) (ad : Nat → Nat) (row : Int → Int) : ceX G ad 140 row = .inr (5, [.ref (ad 141), .ref (ad 143), .ref (ad 144), .ref (ad 145), .ref (ad 146), .int (iI (row 5)), .ref (ad 147), .int (iI (row 7))]) := rfl
theorem ceX_141 (G : gp_) (ad : Nat → Nat) (row : Int → Int) : ceX G ad 141 row = .inr (0, [.ref (ad 142), .int (iI (row 1)), .int (iI (row 2)), .int (iI (row 3))]) := rfl
theorem ceX_142 (G : gp_) (ad : Nat → Nat) (row : Int → Int) : ceX G ad 142 row = .inl (G.1.1 101, (row (-1)).toNat, .inl (fun j => iI (row (j : Nat)))) := rfl
theorem ceX_143 (G : gp_) (ad : Nat → Nat) (row : Int → Int) : ceX G ad 143 row = .inl (G.1.1 103, 60, .inr (.inr (.inr (.inr (fun j => kv_ G (row (j : Nat))))))) := rfl
theorem ceX_144 (G : gp_) (ad : Nat → Nat) (row : Int → Int) : ceX G ad 144 row = .inl (G.1.1 100, 60, .inl (fun j => iI (row (j : Nat)))) := rfl
theorem ceX_145 (G : gp_) (ad : Nat → Nat) (row : Int → Int) : ceX G ad 145 row = .inl (G.1.1 100, 60, .inl (fun j => iI (row (j : Nat)))) := rfl
theorem ceX_146 (G : gp_) (ad : Nat → Nat) (row : Int → Int) : ceX G ad 146 row = .inl (G.1.1 100, 60, .inl (fun j => iI (row (j : Nat)))) := rfl
theorem ceX_147 (G : gp_) (ad : Nat → Nat) (row : Int → Int) : ceX G ad 147 row = .inl (G.1.1 100, 3, .inl (fun j => iI (row (j : Nat)))) := rfl
theorem ceX_148 (G : gp_) (ad : Nat → Nat) (row : Int → Int) : ceX G ad 148 row = .inr (4, [.ref (ad 149)]) := rfl
theorem ceX_149 (G : gp_) (ad : Nat → Nat) (row : Int → Int) : ceX G ad 149 row = .inr (0, [.ref (ad 150), .int (iI (row 1)), .int (iI (row 2)), .int (iI (row 3))]) := rfl
theorem ceX_150 (G : gp_) (ad : Nat → Nat) (row : Int → Int) : ceX G ad 150 row = .inl (G.1.1 101, (row (-1)).toNat, .inl (fun j => iI (row (j : Nat)))) := rfl
theorem puX_0_9 (G : gp_) (ad : Nat → Nat) (row : Int → Int) (v : Int) : ceX G ad 0 (ur_ row 9 v) = .inr (2, ([.ref (ad 1), .ref (ad 2), .ref (ad 3), .ref (ad 4), .ref (ad 5), .ref (ad 6), .ref (ad 7), .ref (ad 8), .ref (ad 10), .int (iI (row 9)), .int (iI (row 10)), .int (iI (row 11)), .int (iI (row 12)), .int (iI (row 13)), .int (iI (row 14)), .int (iI (row 15)), .int (iI (row 16))] : List Value).set 9 (.int (iI v))) := rfl
theorem puX_0_10 (G : gp_) (ad : Nat → Nat) (row : Int → Int) (v : Int) : ceX G ad 0 (ur_ row 10 v) = .inr (2, ([.ref (ad 1), .ref (ad 2), .ref (ad 3), .ref (ad 4), .ref (ad 5), .ref (ad 6), .ref (ad 7), .ref (ad 8), .ref (ad 10), .int (iI (row 9)), .int (iI (row 10)), .int (iI (row 11)), .int (iI (row 12)), .int (iI (row 13)), .int (iI (row 14)), .int (iI (row 15)), .int (iI (row 16))] : List Value).set 10 (.int (iI v))) := rfl
theorem puX_0_11 (G : gp_) (ad : Nat → Nat) (row : Int → Int) (v : Int) : ceX G ad 0 (ur_ row 11 v) = .inr (2, ([.ref (ad 1), .ref (ad 2), .ref (ad 3), .ref (ad 4), .ref (ad 5), .ref (ad 6), .ref (ad 7), .ref (ad 8), .ref (ad 10), .int (iI (row 9)), .int (iI (row 10)), .int (iI (row 11)), .int (iI (row 12)), .int (iI (row 13)), .int (iI (row 14)), .int (iI (row 15)), .int (iI (row 16))] : List Value).set 11 (.int (iI v))) := rfl
theorem puX_0_12 (G : gp_) (ad : Nat → Nat) (row : Int → Int) (v : Int) : ceX G ad 0 (ur_ row 12 v) = .inr (2, ([.ref (ad 1), .ref (ad 2), .ref (ad 3), .ref (ad 4), .ref (ad 5), .ref (ad 6), .ref (ad 7), .ref (ad 8), .ref (ad 10), .int (iI (row 9)), .int (iI (row 10)), .int (iI (row 11)), .int (iI (row 12)), .int (iI (row 13)), .int (iI (row 14)), .int (iI (row 15)), .int (iI (row 16))] : List Value).set 12 (.int (iI v))) := rfl
theorem puX_0_13 (G : gp_) (ad : Nat → Nat) (row : Int → Int) (v : Int) : ceX G ad 0 (ur_ row 13 v) = .inr (2, ([.ref (ad 1), .ref (ad 2), .ref (ad 3), .ref (ad 4), .ref (ad 5), .ref (ad 6), .ref (ad 7), .ref (ad 8), .ref (ad 10), .int (iI (row 9)), .int (iI (row 10)), .int (iI (row 11)), .int (iI (row 12)), .int (iI (row 13)), .int (iI (row 14)), .int (iI (row 15)), .int (iI (row 16))] : List Value).set 13 (.int (iI v))) := rfl
theorem puX_0_14 (G : gp_) (ad : Nat → Nat) (row : Int → Int) (v : Int) : ceX G ad 0 (ur_ row 14 v) = .inr (2, ([.ref (ad 1), .ref (ad 2), .ref (ad 3), .ref (ad 4), .ref (ad 5), .ref (ad 6), .ref (ad 7), .ref (ad 8), .ref (ad 10), .int (iI (row 9)), .int (iI (row 10)), .int (iI (row 11)), .int (iI (row 12)), .int (iI (row 13)), .int (iI (row 14)), .int (iI (row 15)), .int (iI (row 16))] : List Value).set 14 (.int (iI v))) := rfl
theorem puX_0_15 (G : gp_) (ad : Nat → Nat) (row : Int → Int) (v : Int) : ceX G ad 0 (ur_ row 15 v) = .inr (2, ([.ref (ad 1), .ref (ad 2), .ref (ad 3), .ref (ad 4), .ref (ad 5), .ref (ad 6), .ref (ad 7), .ref (ad 8), .ref (ad 10), .int (iI (row 9)), .int (iI (row 10)), .int (iI (row 11)), .int (iI (row 12)), .int (iI (row 13)), .int (iI (row 14)), .int (iI (row 15)), .int (iI (row 16))] : List Value).set 15 (.int (iI v))) := rfl
theorem puX_0_16 (G : gp_) (ad : Nat → Nat) (row : Int → Int) (v : Int) : ceX G ad 0 (ur_ row 16 v) = .inr (2, ([.ref (ad 1), .ref (ad 2), .ref (ad 3), .ref (ad 4), .ref (ad 5), .ref (ad 6), .ref (ad 7), .ref (ad 8), .ref (ad 10), .int (iI (row 9)), .int (iI (row 10)), .int (iI (row 11)), .int (iI (row 12)), .int (iI (row 13)), .int (iI (row 14)), .int (iI (row 15)), .int (iI (row 16))] : List Value).set 16 (.int (iI v))) := rfl
theorem puX_8_1 (G : gp_) (ad : Nat → Nat) (row : Int → Int) (v : Int) : ceX G ad 8 (ur_ row 1 v) = .inr (8, ([.ref (ad 9), .int (iI (row 1))] : List Value).set 1 (.int (iI v))) := rfl
theorem puX_10_1 (G : gp_) (ad : Nat → Nat) (row : Int → Int) (v : Int) : ceX G ad 10 (ur_ row 1 v) = .inr (8, ([.ref (ad 11), .int (iI (row 1))] : List Value).set 1 (.int (iI v))) := rfl
theorem puX_133_0 (G : gp_) (ad : Nat → Nat) (row : Int → Int) (v : Int) : ceX G ad 133 (ur_ row 0 v) = .inr (7, ([.int (iI (row 0)), .int (iI (row 1))] : List Value).set 0 (.int (iI v))) := rfl
theorem puX_133_1 (G : gp_) (ad : Nat → Nat) (row : Int → Int) (v : Int) : ceX G ad 133 (ur_ row 1 v) = .inr (7, ([.int (iI (row 0)), .int (iI (row 1))] : List Value).set 1 (.int (iI v))) := rfl
theorem puX_138_3 (G : gp_) (ad : Nat → Nat) (row : Int → Int) (v : Int) : ceX G ad 138 (ur_ row 3 v) = .inr (3, ([.ref (ad 0), .ref (ad 139), .ref (ad 120), .int (iI (row 3)), .int (iI (row 4)), .int (iI (row 5))] : List Value).set 3 (.int (iI v))) := rfl
theorem puX_138_4 (G : gp_) (ad : Nat → Nat) (row : Int → Int) (v : Int) : ceX G ad 138 (ur_ row 4 v) = .inr (3, ([.ref (ad 0), .ref (ad 139), .ref (ad 120), .int (iI (row 3)), .int (iI (row 4)), .int (iI (row 5))] : List Value).set 4 (.int (iI v))) := rfl
theorem puX_138_5 (G : gp_) (ad : Nat → Nat) (row : Int → Int) (v : Int) : ceX G ad 138 (ur_ row 5 v) = .inr (3, ([.ref (ad 0), .ref (ad 139), .ref (ad 120), .int (iI (row 3)), .int (iI (row 4)), .int (iI (row 5))] : List Value).set 5 (.int (iI v))) := rfl
theorem puX_140_5 (G : gp_) (ad : Nat → Nat) (row : Int → Int) (v : Int) : ceX G ad 140 (ur_ row 5 v) = .inr (5, ([.ref (ad 141), .ref (ad 143), .ref (ad 144), .ref (ad 145), .ref (ad 146), .int (iI (row 5)), .ref (ad 147), .int (iI (row 7))] : List Value).set 5 (.int (iI v))) := rfl
theorem puX_140_7 (G : gp_) (ad : Nat → Nat) (row : Int → Int) (v : Int) : ceX G ad 140 (ur_ row 7 v) = .inr (5, ([.ref (ad 141), .ref (ad 143), .ref (ad 144), .ref (ad 145), .ref (ad 146), .int (iI (row 5)), .ref (ad 147), .int (iI (row 7))] : List Value).set 7 (.int (iI v))) := rfl
theorem puX_141_1 (G : gp_) (ad : Nat → Nat) (row : Int → Int) (v : Int) : ceX G ad 141 (ur_ row 1 v) = .inr (0, ([.ref (ad 142), .int (iI (row 1)), .int (iI (row 2)), .int (iI (row 3))] : List Value).set 1 (.int (iI v))) := rfl
theorem puX_141_2 (G : gp_) (ad : Nat → Nat) (row : Int → Int) (v : Int) : ceX G ad 141 (ur_ row 2 v) = .inr (0, ([.ref (ad 142), .int (iI (row 1)), .int (iI (row 2)), .int (iI (row 3))] : List Value).set 2 (.int (iI v))) := rfl
theorem puX_141_3 (G : gp_) (ad : Nat → Nat) (row : Int → Int) (v : Int) : ceX G ad 141 (ur_ row 3 v) = .inr (0, ([.ref (ad 142), .int (iI (row 1)), .int (iI (row 2)), .int (iI (row 3))] : List Value).set 3 (.int (iI v))) := rfl
theorem puX_149_1 (G : gp_) (ad : Nat → Nat) (row : Int → Int) (v : Int) : ceX G ad 149 (ur_ row 1 v) = .inr (0, ([.ref (ad 150), .int (iI (row 1)), .int (iI (row 2)), .int (iI (row 3))] : List Value).set 1 (.int (iI v))) := rfl
theorem puX_149_2 (G : gp_) (ad : Nat → Nat) (row : Int → Int) (v : Int) : ceX G ad 149 (ur_ row 2 v) = .inr (0, ([.ref (ad 150), .int (iI (row 1)), .int (iI (row 2)), .int (iI (row 3))] : List Value).set 2 (.int (iI v))) := rfl
theorem puX_149_3 (G : gp_) (ad : Nat → Nat) (row : Int → Int) (v : Int) : ceX G ad 149 (ur_ row 3 v) = .inr (0, ([.ref (ad 150), .int (iI (row 1)), .int (iI (row 2)), .int (iI (row 3))] : List Value).set 3 (.int (iI v))) := rfl
theorem puXh_0_9 (G : gp_) (ad : Nat → Nat) (row : Int → Int) (v : Int) (i : Nat) (hi : i < 11) : ceX G ad (12 * i + 0) (ur_ row 9 v) = .inr (2, ([.ref (ad (12 * i + 1)), .ref (ad (12 * i + 2)), .ref (ad (12 * i + 3)), .ref (ad (12 * i + 4)), .ref (ad (12 * i + 5)), .ref (ad (12 * i + 6)), .ref (ad (12 * i + 7)), .ref (ad (12 * i + 8)), .ref (ad (12 * i + 10)), .int (iI (row 9)), .int (iI (row 10)), .int (iI (row 11)), .int (iI (row 12)), .int (iI (row 13)), .int (iI (row 14)), .int (iI (row 15)), .int (iI (row 16))] : List Value).set 9 (.int (iI v))) := (ceXh_0 G ad (ur_ row 9 v) i hi).trans rfl
theorem puXh_0_10 (G : gp_) (ad : Nat → Nat) (row : Int → Int) (v : Int) (i : Nat) (hi : i < 11) : ceX G ad (12 * i + 0) (ur_ row 10 v) = .inr (2, ([.ref (ad (12 * i + 1)), .ref (ad (12 * i + 2)), .ref (ad (12 * i + 3)), .ref (ad (12 * i + 4)), .ref (ad (12 * i + 5)), .ref (ad (12 * i + 6)), .ref (ad (12 * i + 7)), .ref (ad (12 * i + 8)), .ref (ad (12 * i + 10)), .int (iI (row 9)), .int (iI (row 10)), .int (iI (row 11)), .int (iI (row 12)), .int (iI (row 13)), .int (iI (row 14)), .int (iI (row 15)), .int (iI (row 16))] : List Value).set 10 (.int (iI v))) := (ceXh_0 G ad (ur_ row 10 v) i hi).trans rfl
theorem puXh_0_11 (G : gp_) (ad : Nat → Nat) (row : Int → Int) (v : Int) (i : Nat) (hi : i < 11) : ceX G ad (12 * i + 0) (ur_ row 11 v) = .inr (2, ([.ref (ad (12 * i + 1)), .ref (ad (12 * i + 2)), .ref (ad (12 * i + 3)), .ref (ad (12 * i + 4)), .ref (ad (12 * i + 5)), .ref (ad (12 * i + 6)), .ref (ad (12 * i + 7)), .ref (ad (12 * i + 8)), .ref (ad (12 * i + 10)), .int (iI (row 9)), .int (iI (row 10)), .int (iI (row 11)), .int (iI (row 12)), .int (iI (row 13)), .int (iI (row 14)), .int (iI (row 15)), .int (iI (row 16))] : List Value).set 11 (.int (iI v))) := (ceXh_0 G ad (ur_ row 11 v) i hi).trans rfl
theorem puXh_0_12 (G : gp_) (ad : Nat → Nat) (row : Int → Int) (v : Int) (i : Nat) (hi : i < 11) : ceX G ad (12 * i + 0) (ur_ row 12 v) = .inr (2, ([.ref (ad (12 * i + 1)), .ref (ad (12 * i + 2)), .ref (ad (12 * i + 3)), .ref (ad (12 * i + 4)), .ref (ad (12 * i + 5)), .ref (ad (12 * i + 6)), .ref (ad (12 * i + 7)), .ref (ad (12 * i + 8)), .ref (ad (12 * i + 10)), .int (iI (row 9)), .int (iI (row 10)), .int (iI (row 11)), .int (iI (row 12)), .int (iI (row 13)), .int (iI (row 14)), .int (iI (row 15)), .int (iI (row 16))] : List Value).set 12 (.int (iI v))) := (ceXh_0 G ad (ur_ row 12 v) i hi).trans rfl
theorem puXh_0_13 (G : gp_) (ad : Nat → Nat) (row : Int → Int) (v : Int) (i : Nat) (hi : i < 11) : ceX G ad (12 * i + 0) (ur_ row 13 v) = .inr (2, ([.ref (ad (12 * i + 1)), .ref (ad (12 * i + 2)), .ref (ad (12 * i + 3)), .ref (ad (12 * i + 4)), .ref (ad (12 * i + 5)), .ref (ad (12 * i + 6)), .ref (ad (12 * i + 7)), .ref (ad (12 * i + 8)), .ref (ad (12 * i + 10)), .int (iI (row 9)), .int (iI (row 10)), .int (iI (row 11)), .int (iI (row 12)), .int (iI (row 13)), .int (iI (row 14)), .int (iI (row 15)), .int (iI (row 16))] : List Value).set 13 (.int (iI v))) := (ceXh_0 G ad (ur_ row 13 v) i hi).trans rfl
theorem puXh_0_14 (G : gp_) (ad : Nat → Nat) (row : Int → Int) (v : Int) (i : Nat) (hi : i < 11) : ceX G ad (12 * i + 0) (ur_ row 14 v) = .inr (2, ([.ref (ad (12 * i + 1)), .ref (ad (12 * i + 2)), .ref (ad (12 * i + 3)), .ref (ad (12 * i + 4)), .ref (ad (12 * i + 5)), .ref (ad (12 * i + 6)), .ref (ad (12 * i + 7)), .ref (ad (12 * i + 8)), .ref (ad (12 * i + 10)), .int (iI (row 9)), .int (iI (row 10)), .int (iI (row 11)), .int (iI (row 12)), .int (iI (row 13)), .int (iI (row 14)), .int (iI (row 15)), .int (iI (row 16))] : List Value).set 14 (.int (iI v))) := (ceXh_0 G ad (ur_ row 14 v) i hi).trans rfl
theorem puXh_0_15 (G : gp_) (ad : Nat → Nat) (row : Int → Int) (v : Int) (i : Nat) (hi : i < 11) : ceX G ad (12 * i + 0) (ur_ row 15 v) = .inr (2, ([.ref (ad (12 * i + 1)), .ref (ad (12 * i + 2)), .ref (ad (12 * i + 3)), .ref (ad (12 * i + 4)), .ref (ad (12 * i + 5)), .ref (ad (12 * i + 6)), .ref (ad (12 * i + 7)), .ref (ad (12 * i + 8)), .ref (ad (12 * i + 10)), .int (iI (row 9)), .int (iI (row 10)), .int (iI (row 11)), .int (iI (row 12)), .int (iI (row 13)), .int (iI (row 14)), .int (iI (row 15)), .int (iI (row 16))] : List Value).set 15 (.int (iI v))) := (ceXh_0 G ad (ur_ row 15 v) i hi).trans rfl
theorem puXh_0_16 (G : gp_) (ad : Nat → Nat) (row : Int → Int) (v : Int) (i : Nat) (hi : i < 11) : ceX G ad (12 * i + 0) (ur_ row 16 v) = .inr (2, ([.ref (ad (12 * i + 1)), .ref (ad (12 * i + 2)), .ref (ad (12 * i + 3)), .ref (ad (12 * i + 4)), .ref (ad (12 * i + 5)), .ref (ad (12 * i + 6)), .ref (ad (12 * i + 7)), .ref (ad (12 * i + 8)), .ref (ad (12 * i + 10)), .int (iI (row 9)), .int (iI (row 10)), .int (iI (row 11)), .int (iI (row 12)), .int (iI (row 13)), .int (iI (row 14)), .int (iI (row 15)), .int (iI (row 16))] : List Value).set 16 (.int (iI v))) := (ceXh_0 G ad (ur_ row 16 v) i hi).trans rfl
theorem puXh_8_1 (G : gp_) (ad : Nat → Nat) (row : Int → Int) (v : Int) (i : Nat) (hi : i < 11) : ceX G ad (12 * i + 8) (ur_ row 1 v) = .inr (8, ([.ref (ad (12 * i + 9)), .int (iI (row 1))] : List Value).set 1 (.int (iI v))) := (ceXh_8 G ad (ur_ row 1 v) i hi).trans rfl
theorem puXh_10_1 (G : gp_) (ad : Nat → Nat) (row : Int → Int) (v : Int) (i : Nat) (hi : i < 11) : ceX G ad (12 * i + 10) (ur_ row 1 v) = .inr (8, ([.ref (ad (12 * i + 11)), .int (iI (row 1))] : List Value).set 1 (.int (iI v))) := (ceXh_10 G ad (ur_ row 1 v) i hi).trans rfl
theorem in_X1 : ∀ w ∈ u_ws "UrnHeap$Hands" TX1 2, w ∈ gT_ := gl_ (by decide +kernel)
theorem in_X2 : ∀ w ∈ u_ws "UrnHeap$Heap" TX2 17, w ∈ gT_ := gl_ (by decide +kernel)
theorem in_X3 : ∀ w ∈ u_ws "UrnHeap$History" TX3 6, w ∈ gT_ := gl_ (by decide +kernel)
theorem in_X5 : ∀ w ∈ u_ws "UrnHeap$Line" TX5 1, w ∈ gT_ := gl_ (by decide +kernel)
theorem in_X6 : ∀ w ∈ u_ws "UrnHeap$Orders" TX6 8, w ∈ gT_ := gl_ (by decide +kernel)
theorem in_X7 : ∀ w ∈ u_ws "UrnHeap$Paths" TX7 2, w ∈ gT_ := gl_ (by decide +kernel)
theorem in_X8 : ∀ w ∈ u_ws "UrnHeap$Refusals" TX8 2, w ∈ gT_ := gl_ (by decide +kernel)
theorem in_X9 : ∀ w ∈ u_ws "UrnHeap$Row" TX9 2, w ∈ gT_ := gl_ (by decide +kernel)
theorem in_X10 : ∀ w ∈ u_ws "UrnHeap$Sexton" TX10 2, w ∈ gT_ := gl_ (by decide +kernel)
theorem in_X11 : ∀ w ∈ u_ws "UrnHeap" TX11 8, w ∈ gT_ := gl_ (by decide +kernel)
theorem in_J4 : ∀ w ∈ u_ws "java/lang/StringBuilder" TJ4 4, w ∈ gT_ := gl_ (by decide +kernel)
theorem w_254 : Cond.fieldLink "UrnHeap$Hands" 15 "UrnHeap$Hands" "refusals" "LUrnHeap$Refusals;" ∈ gT_ := gm_ 254 (by decide +kernel)
theorem w_238 : Cond.fieldLink "UrnHeap$Refusals" 9 "UrnHeap$Refusals" "reason" "I" ∈ gT_ := gm_ 238 (by decide +kernel)
theorem w_240 : Cond.fieldLink "UrnHeap$Refusals" 15 "UrnHeap$Refusals" "detail" "I" ∈ gT_ := gm_ 240 (by decide +kernel)
theorem w_458 : Cond.methodLink "UrnHeap$Hands" 46 yX8_refuse ∈ gT_ := gm_ 458 (by decide +kernel)
theorem w_253 : Cond.fieldLink "UrnHeap$Hands" 9 "UrnHeap$Hands" "heap" "LUrnHeap$Heap;" ∈ gT_ := gm_ 253 (by decide +kernel)
theorem w_151 : Cond.fieldLink "UrnHeap$Hands" 25 "UrnHeap$Heap" "colours" "[I" ∈ gT_ := gm_ 151 (by decide +kernel)
theorem w_172 : Cond.fieldLink "UrnHeap$Hands" 52 "UrnHeap$Heap" "phase" "I" ∈ gT_ := gm_ 172 (by decide +kernel)
theorem w_175 : Cond.fieldLink "UrnHeap$Hands" 55 "UrnHeap$Heap" "nextSwept" "I" ∈ gT_ := gm_ 175 (by decide +kernel)
theorem w_145 : Cond.fieldLink "UrnHeap$Hands" 33 "UrnHeap$Heap" "rites" "[I" ∈ gT_ := gm_ 145 (by decide +kernel)
theorem w_156 : Cond.fieldLink "UrnHeap$Hands" 36 "UrnHeap$Heap" "madeIn" "[I" ∈ gT_ := gm_ 156 (by decide +kernel)
theorem w_179 : Cond.fieldLink "UrnHeap$Hands" 39 "UrnHeap$Heap" "roundsOver" "I" ∈ gT_ := gm_ 179 (by decide +kernel)
theorem w_183 : Cond.fieldLink "UrnHeap$Hands" 43 "UrnHeap$Heap" "urnsMade" "I" ∈ gT_ := gm_ 183 (by decide +kernel)
theorem w_454 : Cond.methodLink "UrnHeap$Hands" 29 yX1_colourOfNew ∈ gT_ := gm_ 454 (by decide +kernel)
theorem w_150 : Cond.fieldLink "UrnHeap$Heap" 21 "UrnHeap$Heap" "colours" "[I" ∈ gT_ := gm_ 150 (by decide +kernel)
theorem w_450 : Cond.methodLink "UrnHeap$Hands" 19 yX2_hasUrn ∈ gT_ := gm_ 450 (by decide +kernel)
theorem w_170 : Cond.fieldLink "UrnHeap$Heap" 43 "UrnHeap$Heap" "phase" "I" ∈ gT_ := gm_ 170 (by decide +kernel)
theorem w_174 : Cond.fieldLink "UrnHeap$Heap" 47 "UrnHeap$Heap" "nextSwept" "I" ∈ gT_ := gm_ 174 (by decide +kernel)
theorem w_487 : Cond.methodLink "UrnHeap$Heap" 84 yX2_isWhite ∈ gT_ := gm_ 487 (by decide +kernel)
theorem w_136 : Cond.fieldLink "UrnHeap$Heap" 9 "UrnHeap$Heap" "threads" "[I" ∈ gT_ := gm_ 136 (by decide +kernel)
theorem w_137 : Cond.fieldLink "UrnHeap$Hands" 67 "UrnHeap$Heap" "threads" "[I" ∈ gT_ := gm_ 137 (by decide +kernel)
theorem w_164 : Cond.fieldLink "UrnHeap$Heap" 36 "UrnHeap$Heap" "greys" "LUrnHeap$Row;" ∈ gT_ := gm_ 164 (by decide +kernel)
theorem w_124 : Cond.fieldLink "UrnHeap$Row" 15 "UrnHeap$Row" "size" "I" ∈ gT_ := gm_ 124 (by decide +kernel)
theorem w_123 : Cond.fieldLink "UrnHeap$Row" 9 "UrnHeap$Row" "urns" "[I" ∈ gT_ := gm_ 123 (by decide +kernel)
theorem w_507 : Cond.methodLink "UrnHeap$Heap" 108 yX9_addLast ∈ gT_ := gm_ 507 (by decide +kernel)
theorem w_503 : Cond.methodLink "UrnHeap$Heap" 112 yX2_makeGrey ∈ gT_ := gm_ 503 (by decide +kernel)
theorem w_499 : Cond.methodLink "UrnHeap$Hands" 70 yX2_makeGreyInRound ∈ gT_ := gm_ 499 (by decide +kernel)
theorem w_491 : Cond.methodLink "UrnHeap$Hands" 64 yX2_target ∈ gT_ := gm_ 491 (by decide +kernel)
theorem w_483 : Cond.methodLink "UrnHeap$Hands" 61 yX2_isToBeSwept ∈ gT_ := gm_ 483 (by decide +kernel)
theorem w_141 : Cond.fieldLink "UrnHeap$Hands" 74 "UrnHeap$Heap" "weaks" "[I" ∈ gT_ := gm_ 141 (by decide +kernel)
theorem w_161 : Cond.fieldLink "UrnHeap$Hands" 80 "UrnHeap$Heap" "names" "[I" ∈ gT_ := gm_ 161 (by decide +kernel)
theorem w_1091 : Cond.methodLink "UrnHeap$Heap" 94 yX2_urnsOf ∈ gT_ := gm_ 1091 (by decide +kernel)
theorem w_158 : Cond.fieldLink "UrnHeap$Heap" 27 "UrnHeap$Heap" "names" "[I" ∈ gT_ := gm_ 158 (by decide +kernel)
theorem w_563 : Cond.methodLink "UrnHeap$Heap" 98 yX2_target ∈ gT_ := gm_ 563 (by decide +kernel)
theorem w_1129 : Cond.methodLink "UrnHeap$Heap" 105 yX2_holdersOf ∈ gT_ := gm_ 1129 (by decide +kernel)
theorem w_618 : Cond.methodLink "UrnHeap$Heap" 102 yX2_hasUrn ∈ gT_ := gm_ 618 (by decide +kernel)
theorem w_185 : Cond.fieldLink "UrnHeap$Heap" 56 "UrnHeap$Heap" "urnsFreed" "I" ∈ gT_ := gm_ 185 (by decide +kernel)
theorem w_163 : Cond.fieldLink "UrnHeap$Heap" 30 "UrnHeap$Heap" "late" "[I" ∈ gT_ := gm_ 163 (by decide +kernel)
theorem w_144 : Cond.fieldLink "UrnHeap$Heap" 18 "UrnHeap$Heap" "rites" "[I" ∈ gT_ := gm_ 144 (by decide +kernel)
theorem w_139 : Cond.fieldLink "UrnHeap$Heap" 15 "UrnHeap$Heap" "weaks" "[I" ∈ gT_ := gm_ 139 (by decide +kernel)
theorem w_619 : Cond.methodLink "UrnHeap$Heap" 115 yJ9_floorMod_7cf53 ∈ gT_ := gm_ 619 (by decide +kernel)
theorem w_182 : Cond.fieldLink "UrnHeap$Heap" 53 "UrnHeap$Heap" "urnsMade" "I" ∈ gT_ := gm_ 182 (by decide +kernel)
theorem w_1117 : Cond.methodLink "UrnHeap$Heap" 128 yX2_hasBlackToWhite ∈ gT_ := gm_ 1117 (by decide +kernel)
theorem w_1113 : Cond.methodLink "UrnHeap$Heap" 124 yX2_areUrns ∈ gT_ := gm_ 1113 (by decide +kernel)
theorem w_1112 : Cond.methodLink "UrnHeap$Heap" 120 yX2_urns ∈ gT_ := gm_ 1112 (by decide +kernel)
theorem w_299 : Cond.fieldLink "UrnHeap$History" 26 "UrnHeap$History" "next" "I" ∈ gT_ := gm_ 299 (by decide +kernel)
theorem w_296 : Cond.fieldLink "UrnHeap$History" 11 "UrnHeap$History" "past" "[LUrnHeap$Heap;" ∈ gT_ := gm_ 296 (by decide +kernel)
theorem w_295 : Cond.fieldLink "UrnHeap$History" 33 "UrnHeap$History" "now" "LUrnHeap$Heap;" ∈ gT_ := gm_ 295 (by decide +kernel)
theorem w_438 : Cond.methodLink "UrnHeap$Heap" 74 arraycopyName ∈ gT_ := gm_ 438 (by decide +kernel)
theorem w_440 : Cond.native arraycopyName ∈ gT_ := gm_ 440 (by decide +kernel)
theorem w_439 : Cond.static arraycopyName ∈ gT_ := gm_ 439 (by decide +kernel)
theorem w_93 : Cond.initialized "java/lang/System" ∈ gT_ := gm_ 93 (by decide +kernel)
theorem w_155 : Cond.fieldLink "UrnHeap$Heap" 24 "UrnHeap$Heap" "madeIn" "[I" ∈ gT_ := gm_ 155 (by decide +kernel)
theorem w_445 : Cond.methodLink "UrnHeap$Row" 19 arraycopyName ∈ gT_ := gm_ 445 (by decide +kernel)
theorem w_167 : Cond.fieldLink "UrnHeap$Heap" 40 "UrnHeap$Heap" "dues" "LUrnHeap$Row;" ∈ gT_ := gm_ 167 (by decide +kernel)
theorem w_178 : Cond.fieldLink "UrnHeap$Heap" 50 "UrnHeap$Heap" "roundsOver" "I" ∈ gT_ := gm_ 178 (by decide +kernel)
theorem w_188 : Cond.fieldLink "UrnHeap$Heap" 59 "UrnHeap$Heap" "ritesDone" "I" ∈ gT_ := gm_ 188 (by decide +kernel)
theorem w_191 : Cond.fieldLink "UrnHeap$Heap" 62 "UrnHeap$Heap" "weaksCut" "I" ∈ gT_ := gm_ 191 (by decide +kernel)
theorem w_194 : Cond.fieldLink "UrnHeap$Heap" 65 "UrnHeap$Heap" "partsDone" "I" ∈ gT_ := gm_ 194 (by decide +kernel)
theorem w_441 : Cond.methodLink "UrnHeap$Heap" 80 yX9_copyFrom ∈ gT_ := gm_ 441 (by decide +kernel)
theorem w_434 : Cond.methodLink "UrnHeap$History" 40 yX2_copyFrom ∈ gT_ := gm_ 434 (by decide +kernel)
theorem w_430 : Cond.methodLink "UrnHeap$History" 36 yX3_copyAtNext ∈ gT_ := gm_ 430 (by decide +kernel)
theorem w_300 : Cond.fieldLink "UrnHeap$History" 30 "UrnHeap$History" "changes" "I" ∈ gT_ := gm_ 300 (by decide +kernel)
theorem w_469 : Cond.methodLink "UrnHeap$History" 48 Lib.Math.min.name ∈ gT_ := gm_ 469 (by decide +kernel)
theorem w_470 : Cond.static Lib.Math.min.name ∈ gT_ := gm_ 470 (by decide +kernel)
theorem w_94 : Cond.initialized "java/lang/Math" ∈ gT_ := gm_ 94 (by decide +kernel)
theorem w_471 : Cond.code Lib.Math.min.name Lib.Math.min.code 2 (some .int) ∈ gT_ := gm_ 471 (by decide +kernel)
theorem w_466 : Cond.methodLink "UrnHeap$History" 44 yX3_isRefusal ∈ gT_ := gm_ 466 (by decide +kernel)
theorem w_1148 : Cond.methodLink "UrnHeap$History" 54 yX3_takeBack ∈ gT_ := gm_ 1148 (by decide +kernel)
theorem w_297 : Cond.fieldLink "UrnHeap$History" 18 "UrnHeap$History" "saved" "LUrnHeap$Heap;" ∈ gT_ := gm_ 297 (by decide +kernel)
theorem w_298 : Cond.fieldLink "UrnHeap$History" 22 "UrnHeap$History" "isSaved" "Z" ∈ gT_ := gm_ 298 (by decide +kernel)
theorem w_1157 : Cond.methodLink "UrnHeap$History" 57 yX2_urns ∈ gT_ := gm_ 1157 (by decide +kernel)
theorem w_393 : Cond.fieldLink "UrnHeap$Line" 12 "UrnHeap$Line" "signs" "Ljava/lang/StringBuilder;" ∈ gT_ := gm_ 393 (by decide +kernel)
theorem w_355 : Cond.fieldLink "UrnHeap$Orders" 12 "UrnHeap$Orders" "text" "Ljava/lang/StringBuilder;" ∈ gT_ := gm_ 355 (by decide +kernel)
theorem w_364 : Cond.fieldLink "UrnHeap$Orders" 34 "UrnHeap$Orders" "count" "I" ∈ gT_ := gm_ 364 (by decide +kernel)
theorem w_356 : Cond.fieldLink "UrnHeap$Orders" 20 "UrnHeap$Orders" "kinds" "[LUrnHeap$Kind;" ∈ gT_ := gm_ 356 (by decide +kernel)
theorem w_358 : Cond.fieldLink "UrnHeap$Orders" 24 "UrnHeap$Orders" "firsts" "[I" ∈ gT_ := gm_ 358 (by decide +kernel)
theorem w_366 : Cond.fieldLink "UrnHeap$Orders" 38 "UrnHeap$Orders" "numbers" "[I" ∈ gT_ := gm_ 366 (by decide +kernel)
theorem w_360 : Cond.fieldLink "UrnHeap$Orders" 28 "UrnHeap$Orders" "seconds" "[I" ∈ gT_ := gm_ 360 (by decide +kernel)
theorem w_362 : Cond.fieldLink "UrnHeap$Orders" 31 "UrnHeap$Orders" "thirds" "[I" ∈ gT_ := gm_ 362 (by decide +kernel)
theorem w_953 : Cond.methodLink "UrnHeap$Orders" 75 yX6_keep ∈ gT_ := gm_ 953 (by decide +kernel)
theorem w_367 : Cond.fieldLink "UrnHeap$Orders" 41 "UrnHeap$Orders" "at" "I" ∈ gT_ := gm_ 367 (by decide +kernel)
theorem w_279 : Cond.fieldLink "UrnHeap$Paths" 15 "UrnHeap$Paths" "heap" "LUrnHeap$Heap;" ∈ gT_ := gm_ 279 (by decide +kernel)
theorem w_149 : Cond.fieldLink "UrnHeap$Paths" 74 "UrnHeap$Heap" "rites" "[I" ∈ gT_ := gm_ 149 (by decide +kernel)
theorem w_692 : Cond.methodLink "UrnHeap$Paths" 34 yX7_bit ∈ gT_ := gm_ 692 (by decide +kernel)
theorem w_691 : Cond.methodLink "UrnHeap$Paths" 58 yX2_hasUrn ∈ gT_ := gm_ 691 (by decide +kernel)
theorem w_159 : Cond.fieldLink "UrnHeap$Paths" 29 "UrnHeap$Heap" "names" "[I" ∈ gT_ := gm_ 159 (by decide +kernel)
theorem w_687 : Cond.methodLink "UrnHeap$Paths" 26 yX7_rootsByRite ∈ gT_ := gm_ 687 (by decide +kernel)
theorem w_711 : Cond.methodLink "UrnHeap$Paths" 77 yX2_target ∈ gT_ := gm_ 711 (by decide +kernel)
theorem w_707 : Cond.methodLink "UrnHeap$Paths" 51 yX7_targets ∈ gT_ := gm_ 707 (by decide +kernel)
theorem w_704 : Cond.methodLink "UrnHeap$Paths" 37 yX7_isIn ∈ gT_ := gm_ 704 (by decide +kernel)
theorem w_700 : Cond.methodLink "UrnHeap$Paths" 44 yX7_targetsOfAll ∈ gT_ := gm_ 700 (by decide +kernel)
theorem w_696 : Cond.methodLink "UrnHeap$Paths" 23 yX7_reachFrom ∈ gT_ := gm_ 696 (by decide +kernel)
theorem w_683 : Cond.methodLink "UrnHeap$Paths" 19 yX7_roots ∈ gT_ := gm_ 683 (by decide +kernel)
theorem w_138 : Cond.fieldLink "UrnHeap$Paths" 80 "UrnHeap$Heap" "threads" "[I" ∈ gT_ := gm_ 138 (by decide +kernel)
theorem w_720 : Cond.methodLink "UrnHeap$Paths" 41 yX7_isHeldBySome ∈ gT_ := gm_ 720 (by decide +kernel)
theorem w_741 : Cond.methodLink "UrnHeap$Paths" 47 yX7_reach ∈ gT_ := gm_ 741 (by decide +kernel)
theorem w_750 : Cond.methodLink "UrnHeap$Paths" 54 yX7_distance ∈ gT_ := gm_ 750 (by decide +kernel)
theorem w_280 : Cond.fieldLink "UrnHeap$Paths" 9 "UrnHeap$Paths" "weights" "[I" ∈ gT_ := gm_ 280 (by decide +kernel)
theorem w_772 : Cond.methodLink "UrnHeap$Paths" 71 yX2_threadsFrom ∈ gT_ := gm_ 772 (by decide +kernel)
theorem w_771 : Cond.methodLink "UrnHeap$Paths" 68 yX2_holdersOf ∈ gT_ := gm_ 771 (by decide +kernel)
theorem w_773 : Cond.methodLink "UrnHeap$Paths" 65 yX7_heavierThan ∈ gT_ := gm_ 773 (by decide +kernel)
theorem w_767 : Cond.methodLink "UrnHeap$Paths" 62 yX7_weighAll ∈ gT_ := gm_ 767 (by decide +kernel)
theorem w_266 : Cond.fieldLink "UrnHeap$Sexton" 9 "UrnHeap$Sexton" "heap" "LUrnHeap$Heap;" ∈ gT_ := gm_ 266 (by decide +kernel)
theorem w_171 : Cond.fieldLink "UrnHeap$Sexton" 19 "UrnHeap$Heap" "phase" "I" ∈ gT_ := gm_ 171 (by decide +kernel)
theorem w_168 : Cond.fieldLink "UrnHeap$Sexton" 53 "UrnHeap$Heap" "dues" "LUrnHeap$Row;" ∈ gT_ := gm_ 168 (by decide +kernel)
theorem w_125 : Cond.fieldLink "UrnHeap$Sexton" 38 "UrnHeap$Row" "size" "I" ∈ gT_ := gm_ 125 (by decide +kernel)
theorem w_592 : Cond.methodLink "UrnHeap$Sexton" 74 yX2_makeGrey ∈ gT_ := gm_ 592 (by decide +kernel)
theorem w_593 : Cond.methodLink "UrnHeap$Sexton" 78 yX9_at ∈ gT_ := gm_ 593 (by decide +kernel)
theorem w_160 : Cond.fieldLink "UrnHeap$Sexton" 71 "UrnHeap$Heap" "names" "[I" ∈ gT_ := gm_ 160 (by decide +kernel)
theorem w_165 : Cond.fieldLink "UrnHeap$Sexton" 34 "UrnHeap$Heap" "greys" "LUrnHeap$Row;" ∈ gT_ := gm_ 165 (by decide +kernel)
theorem w_588 : Cond.methodLink "UrnHeap$Sexton" 31 yX10_markRoots ∈ gT_ := gm_ 588 (by decide +kernel)
theorem w_267 : Cond.fieldLink "UrnHeap$Sexton" 15 "UrnHeap$Sexton" "refusals" "LUrnHeap$Refusals;" ∈ gT_ := gm_ 267 (by decide +kernel)
theorem w_587 : Cond.methodLink "UrnHeap$Sexton" 25 yX8_refuse ∈ gT_ := gm_ 587 (by decide +kernel)
theorem w_195 : Cond.fieldLink "UrnHeap$Sexton" 94 "UrnHeap$Heap" "partsDone" "I" ∈ gT_ := gm_ 195 (by decide +kernel)
theorem w_147 : Cond.fieldLink "UrnHeap$Sexton" 67 "UrnHeap$Heap" "rites" "[I" ∈ gT_ := gm_ 147 (by decide +kernel)
theorem w_637 : Cond.methodLink "UrnHeap$Sexton" 106 yX9_addLast ∈ gT_ := gm_ 637 (by decide +kernel)
theorem w_613 : Cond.methodLink "UrnHeap$Sexton" 103 yX2_isWhite ∈ gT_ := gm_ 613 (by decide +kernel)
theorem w_176 : Cond.fieldLink "UrnHeap$Sexton" 115 "UrnHeap$Heap" "nextSwept" "I" ∈ gT_ := gm_ 176 (by decide +kernel)
theorem w_143 : Cond.fieldLink "UrnHeap$Sexton" 109 "UrnHeap$Heap" "weaks" "[I" ∈ gT_ := gm_ 143 (by decide +kernel)
theorem w_192 : Cond.fieldLink "UrnHeap$Sexton" 112 "UrnHeap$Heap" "weaksCut" "I" ∈ gT_ := gm_ 192 (by decide +kernel)
theorem w_638 : Cond.methodLink "UrnHeap$Sexton" 91 yX10_beginSweep ∈ gT_ := gm_ 638 (by decide +kernel)
theorem w_633 : Cond.methodLink "UrnHeap$Sexton" 87 yX10_makeRitesDue ∈ gT_ := gm_ 633 (by decide +kernel)
theorem w_153 : Cond.fieldLink "UrnHeap$Sexton" 97 "UrnHeap$Heap" "colours" "[I" ∈ gT_ := gm_ 153 (by decide +kernel)
theorem w_632 : Cond.methodLink "UrnHeap$Sexton" 100 yX2_target ∈ gT_ := gm_ 632 (by decide +kernel)
theorem w_627 : Cond.methodLink "UrnHeap$Sexton" 56 yX9_takeFirst ∈ gT_ := gm_ 627 (by decide +kernel)
theorem w_623 : Cond.methodLink "UrnHeap$Sexton" 84 yX10_blackenFirst ∈ gT_ := gm_ 623 (by decide +kernel)
theorem w_180 : Cond.fieldLink "UrnHeap$Sexton" 43 "UrnHeap$Heap" "roundsOver" "I" ∈ gT_ := gm_ 180 (by decide +kernel)
theorem w_622 : Cond.methodLink "UrnHeap$Sexton" 121 yX2_hasUrn ∈ gT_ := gm_ 622 (by decide +kernel)
theorem w_614 : Cond.methodLink "UrnHeap$Sexton" 118 yX2_free ∈ gT_ := gm_ 614 (by decide +kernel)
theorem w_609 : Cond.methodLink "UrnHeap$Sexton" 81 yX10_sweepNext ∈ gT_ := gm_ 609 (by decide +kernel)
theorem w_605 : Cond.methodLink "UrnHeap$Sexton" 46 yX10_doPartsUntilOver ∈ gT_ := gm_ 605 (by decide +kernel)
theorem w_186 : Cond.fieldLink "UrnHeap$Sexton" 50 "UrnHeap$Heap" "urnsFreed" "I" ∈ gT_ := gm_ 186 (by decide +kernel)
theorem w_189 : Cond.fieldLink "UrnHeap$Sexton" 64 "UrnHeap$Heap" "ritesDone" "I" ∈ gT_ := gm_ 189 (by decide +kernel)
theorem w_402 : Cond.fieldLink "UrnHeap" 51 "UrnHeap" "history" "LUrnHeap$History;" ∈ gT_ := gm_ 402 (by decide +kernel)
theorem w_399 : Cond.fieldLink "UrnHeap" 28 "UrnHeap" "hands" "LUrnHeap$Hands;" ∈ gT_ := gm_ 399 (by decide +kernel)
theorem w_462 : Cond.methodLink "UrnHeap" 76 yX3_settle ∈ gT_ := gm_ 462 (by decide +kernel)
theorem w_446 : Cond.methodLink "UrnHeap" 72 yX1_makeUrn ∈ gT_ := gm_ 446 (by decide +kernel)
theorem w_426 : Cond.methodLink "UrnHeap" 69 yX3_keepBefore ∈ gT_ := gm_ 426 (by decide +kernel)
theorem w_476 : Cond.methodLink "UrnHeap" 80 yX1_tieThread ∈ gT_ := gm_ 476 (by decide +kernel)
theorem w_515 : Cond.methodLink "UrnHeap" 84 yX1_takeThread ∈ gT_ := gm_ 515 (by decide +kernel)
theorem w_523 : Cond.methodLink "UrnHeap" 88 yX1_tieWeak ∈ gT_ := gm_ 523 (by decide +kernel)
theorem w_531 : Cond.methodLink "UrnHeap" 91 yX1_takeWeak ∈ gT_ := gm_ 531 (by decide +kernel)
theorem w_539 : Cond.methodLink "UrnHeap" 94 yX1_giveName ∈ gT_ := gm_ 539 (by decide +kernel)
theorem w_550 : Cond.methodLink "UrnHeap" 97 yX1_takeName ∈ gT_ := gm_ 550 (by decide +kernel)
theorem w_397 : Cond.fieldLink "UrnHeap" 13 "UrnHeap" "heap" "LUrnHeap$Heap;" ∈ gT_ := gm_ 397 (by decide +kernel)
theorem w_154 : Cond.fieldLink "UrnHeap" 104 "UrnHeap$Heap" "colours" "[I" ∈ gT_ := gm_ 154 (by decide +kernel)
theorem w_148 : Cond.fieldLink "UrnHeap" 108 "UrnHeap$Heap" "rites" "[I" ∈ gT_ := gm_ 148 (by decide +kernel)
theorem w_559 : Cond.methodLink "UrnHeap" 111 yX2_threadsFrom ∈ gT_ := gm_ 559 (by decide +kernel)
theorem w_564 : Cond.methodLink "UrnHeap" 114 yX2_holdersOf ∈ gT_ := gm_ 564 (by decide +kernel)
theorem w_142 : Cond.fieldLink "UrnHeap" 117 "UrnHeap$Heap" "weaks" "[I" ∈ gT_ := gm_ 142 (by decide +kernel)
theorem w_157 : Cond.fieldLink "UrnHeap" 120 "UrnHeap$Heap" "madeIn" "[I" ∈ gT_ := gm_ 157 (by decide +kernel)
theorem w_558 : Cond.methodLink "UrnHeap" 100 yX2_hasUrn ∈ gT_ := gm_ 558 (by decide +kernel)
theorem w_573 : Cond.methodLink "UrnHeap" 126 yX2_target ∈ gT_ := gm_ 573 (by decide +kernel)
theorem w_572 : Cond.methodLink "UrnHeap" 123 yX11_isSlot ∈ gT_ := gm_ 572 (by decide +kernel)
theorem w_162 : Cond.fieldLink "UrnHeap" 132 "UrnHeap$Heap" "names" "[I" ∈ gT_ := gm_ 162 (by decide +kernel)
theorem w_578 : Cond.methodLink "UrnHeap" 129 yX11_isName ∈ gT_ := gm_ 578 (by decide +kernel)
theorem w_400 : Cond.fieldLink "UrnHeap" 35 "UrnHeap" "sexton" "LUrnHeap$Sexton;" ∈ gT_ := gm_ 400 (by decide +kernel)
theorem w_583 : Cond.methodLink "UrnHeap" 135 yX10_beginRound ∈ gT_ := gm_ 583 (by decide +kernel)
theorem w_601 : Cond.methodLink "UrnHeap" 139 yX10_doParts ∈ gT_ := gm_ 601 (by decide +kernel)
theorem w_646 : Cond.methodLink "UrnHeap" 142 yX10_endRound ∈ gT_ := gm_ 646 (by decide +kernel)
theorem w_654 : Cond.methodLink "UrnHeap" 145 yX10_doRite ∈ gT_ := gm_ 654 (by decide +kernel)
theorem w_169 : Cond.fieldLink "UrnHeap" 148 "UrnHeap$Heap" "dues" "LUrnHeap$Row;" ∈ gT_ := gm_ 169 (by decide +kernel)
theorem w_662 : Cond.methodLink "UrnHeap" 152 yX9_at ∈ gT_ := gm_ 662 (by decide +kernel)
theorem w_166 : Cond.fieldLink "UrnHeap" 157 "UrnHeap$Heap" "greys" "LUrnHeap$Row;" ∈ gT_ := gm_ 166 (by decide +kernel)
theorem w_671 : Cond.methodLink "UrnHeap" 160 yX2_freedLate ∈ gT_ := gm_ 671 (by decide +kernel)
theorem w_401 : Cond.fieldLink "UrnHeap" 44 "UrnHeap" "paths" "LUrnHeap$Paths;" ∈ gT_ := gm_ 401 (by decide +kernel)
theorem w_679 : Cond.methodLink "UrnHeap" 163 yX7_reach ∈ gT_ := gm_ 679 (by decide +kernel)
theorem w_716 : Cond.methodLink "UrnHeap" 166 yX7_reachUrnByUrn ∈ gT_ := gm_ 716 (by decide +kernel)
theorem w_729 : Cond.methodLink "UrnHeap" 172 yX7_distance ∈ gT_ := gm_ 729 (by decide +kernel)
theorem w_728 : Cond.methodLink "UrnHeap" 169 yX7_roots ∈ gT_ := gm_ 728 (by decide +kernel)
theorem w_737 : Cond.methodLink "UrnHeap" 175 yX7_neededNames ∈ gT_ := gm_ 737 (by decide +kernel)
theorem w_746 : Cond.methodLink "UrnHeap" 178 yX7_ringLength ∈ gT_ := gm_ 746 (by decide +kernel)
theorem w_755 : Cond.methodLink "UrnHeap" 181 yX7_leftOver ∈ gT_ := gm_ 755 (by decide +kernel)
theorem w_763 : Cond.methodLink "UrnHeap" 184 yX7_urnAtRank ∈ gT_ := gm_ 763 (by decide +kernel)
theorem w_403 : Cond.fieldLink "UrnHeap" 58 "UrnHeap" "orders" "LUrnHeap$Orders;" ∈ gT_ := gm_ 403 (by decide +kernel)
theorem w_404 : Cond.fieldLink "UrnHeap" 65 "UrnHeap" "line" "LUrnHeap$Line;" ∈ gT_ := gm_ 404 (by decide +kernel)
theorem w_398 : Cond.fieldLink "UrnHeap" 19 "UrnHeap" "refusals" "LUrnHeap$Refusals;" ∈ gT_ := gm_ 398 (by decide +kernel)
theorem w_239 : Cond.fieldLink "UrnHeap" 226 "UrnHeap$Refusals" "reason" "I" ∈ gT_ := gm_ 239 (by decide +kernel)
theorem w_241 : Cond.fieldLink "UrnHeap" 223 "UrnHeap$Refusals" "detail" "I" ∈ gT_ := gm_ 241 (by decide +kernel)
theorem w_181 : Cond.fieldLink "UrnHeap" 229 "UrnHeap$Heap" "roundsOver" "I" ∈ gT_ := gm_ 181 (by decide +kernel)
theorem w_173 : Cond.fieldLink "UrnHeap" 232 "UrnHeap$Heap" "phase" "I" ∈ gT_ := gm_ 173 (by decide +kernel)
theorem w_177 : Cond.fieldLink "UrnHeap" 235 "UrnHeap$Heap" "nextSwept" "I" ∈ gT_ := gm_ 177 (by decide +kernel)
theorem w_1087 : Cond.methodLink "UrnHeap" 238 yX2_urns ∈ gT_ := gm_ 1087 (by decide +kernel)
theorem w_1095 : Cond.methodLink "UrnHeap" 241 yX2_urnsOf ∈ gT_ := gm_ 1095 (by decide +kernel)
theorem w_184 : Cond.fieldLink "UrnHeap" 244 "UrnHeap$Heap" "urnsMade" "I" ∈ gT_ := gm_ 184 (by decide +kernel)
theorem w_187 : Cond.fieldLink "UrnHeap" 247 "UrnHeap$Heap" "urnsFreed" "I" ∈ gT_ := gm_ 187 (by decide +kernel)
theorem w_126 : Cond.fieldLink "UrnHeap" 250 "UrnHeap$Row" "size" "I" ∈ gT_ := gm_ 126 (by decide +kernel)
theorem w_190 : Cond.fieldLink "UrnHeap" 253 "UrnHeap$Heap" "ritesDone" "I" ∈ gT_ := gm_ 190 (by decide +kernel)
theorem w_193 : Cond.fieldLink "UrnHeap" 256 "UrnHeap$Heap" "weaksCut" "I" ∈ gT_ := gm_ 193 (by decide +kernel)
theorem w_1096 : Cond.methodLink "UrnHeap" 259 yX2_namesInUse ∈ gT_ := gm_ 1096 (by decide +kernel)
theorem w_196 : Cond.fieldLink "UrnHeap" 262 "UrnHeap$Heap" "partsDone" "I" ∈ gT_ := gm_ 196 (by decide +kernel)
theorem w_1108 : Cond.methodLink "UrnHeap" 271 yX2_isSound ∈ gT_ := gm_ 1108 (by decide +kernel)
theorem w_1125 : Cond.methodLink "UrnHeap" 275 yX2_holdersOfAll ∈ gT_ := gm_ 1125 (by decide +kernel)
theorem w_1134 : Cond.methodLink "UrnHeap" 278 yJ6_bitCount_0f7a4 ∈ gT_ := gm_ 1134 (by decide +kernel)
theorem w_1144 : Cond.methodLink "UrnHeap" 283 yX3_undoLatest ∈ gT_ := gm_ 1144 (by decide +kernel)
theorem w_1153 : Cond.methodLink "UrnHeap" 286 yX3_saveNow ∈ gT_ := gm_ 1153 (by decide +kernel)
theorem w_1162 : Cond.methodLink "UrnHeap" 289 yX3_restoreSaved ∈ gT_ := gm_ 1162 (by decide +kernel)
theorem w_359 : Cond.fieldLink "UrnHeap" 295 "UrnHeap$Orders" "firsts" "[I" ∈ gT_ := gm_ 359 (by decide +kernel)
theorem w_361 : Cond.fieldLink "UrnHeap" 298 "UrnHeap$Orders" "seconds" "[I" ∈ gT_ := gm_ 361 (by decide +kernel)
theorem w_990 : Cond.fieldLink "UrnHeap" 301 "UrnHeap$1" "$SwitchMap$UrnHeap$Kind" "[I" ∈ gT_ := gm_ 990 (by decide +kernel)
theorem w_357 : Cond.fieldLink "UrnHeap" 306 "UrnHeap$Orders" "kinds" "[LUrnHeap$Kind;" ∈ gT_ := gm_ 357 (by decide +kernel)
theorem w_81 : Cond.initialized "UrnHeap$Refusals" ∈ gT_ := gm_ 81 (by decide +kernel)
theorem w_461 : Cond.code yX8_refuse cX8_refuse 3 (some .int) ∈ gT_ := gm_ 461 (by decide +kernel)
theorem w_459 : Cond.instanceMethod yX8_refuse ∈ gT_ := gm_ 459 (by decide +kernel)
theorem w_460 : Cond.selects "UrnHeap$Refusals" yX8_refuse yX8_refuse ∈ gT_ := gm_ 460 (by decide +kernel)
theorem w_82 : Cond.initialized "UrnHeap$Hands" ∈ gT_ := gm_ 82 (by decide +kernel)
theorem w_457 : Cond.code yX1_colourOfNew cX1_colourOfNew 3 (some .int) ∈ gT_ := gm_ 457 (by decide +kernel)
theorem w_456 : Cond.instanceMethod yX1_colourOfNew ∈ gT_ := gm_ 456 (by decide +kernel)
theorem w_1 : Cond.selects "UrnHeap$Hands" yX1_colourOfNew yX1_colourOfNew ∈ gT_ := gm_ 1 (by decide +kernel)
theorem w_78 : Cond.initialized "UrnHeap$Heap" ∈ gT_ := gm_ 78 (by decide +kernel)
theorem w_453 : Cond.code yX2_hasUrn cX2_hasUrn 2 (some .boolean) ∈ gT_ := gm_ 453 (by decide +kernel)
theorem w_451 : Cond.instanceMethod yX2_hasUrn ∈ gT_ := gm_ 451 (by decide +kernel)
theorem w_452 : Cond.selects "UrnHeap$Heap" yX2_hasUrn yX2_hasUrn ∈ gT_ := gm_ 452 (by decide +kernel)
theorem w_77 : Cond.initialized "UrnHeap" ∈ gT_ := gm_ 77 (by decide +kernel)
theorem w_482 : Cond.code yX11_isSlot cX11_isSlot 1 (some .boolean) ∈ gT_ := gm_ 482 (by decide +kernel)
theorem w_481 : Cond.static yX11_isSlot ∈ gT_ := gm_ 481 (by decide +kernel)
theorem w_490 : Cond.code yX2_isWhite cX2_isWhite 2 (some .boolean) ∈ gT_ := gm_ 490 (by decide +kernel)
theorem w_488 : Cond.instanceMethod yX2_isWhite ∈ gT_ := gm_ 488 (by decide +kernel)
theorem w_489 : Cond.selects "UrnHeap$Heap" yX2_isWhite yX2_isWhite ∈ gT_ := gm_ 489 (by decide +kernel)
theorem w_486 : Cond.code yX2_isToBeSwept cX2_isToBeSwept 2 (some .boolean) ∈ gT_ := gm_ 486 (by decide +kernel)
theorem w_484 : Cond.instanceMethod yX2_isToBeSwept ∈ gT_ := gm_ 484 (by decide +kernel)
theorem w_485 : Cond.selects "UrnHeap$Heap" yX2_isToBeSwept yX2_isToBeSwept ∈ gT_ := gm_ 485 (by decide +kernel)
theorem w_497 : Cond.code yX11_isCell cX11_isCell 1 (some .boolean) ∈ gT_ := gm_ 497 (by decide +kernel)
theorem w_496 : Cond.static yX11_isCell ∈ gT_ := gm_ 496 (by decide +kernel)
theorem w_494 : Cond.code yX2_target cX2_target 3 (some .int) ∈ gT_ := gm_ 494 (by decide +kernel)
theorem w_492 : Cond.instanceMethod yX2_target ∈ gT_ := gm_ 492 (by decide +kernel)
theorem w_493 : Cond.selects "UrnHeap$Heap" yX2_target yX2_target ∈ gT_ := gm_ 493 (by decide +kernel)
theorem w_79 : Cond.initialized "UrnHeap$Row" ∈ gT_ := gm_ 79 (by decide +kernel)
theorem w_510 : Cond.code yX9_addLast cX9_addLast 2 none ∈ gT_ := gm_ 510 (by decide +kernel)
theorem w_508 : Cond.instanceMethod yX9_addLast ∈ gT_ := gm_ 508 (by decide +kernel)
theorem w_509 : Cond.selects "UrnHeap$Row" yX9_addLast yX9_addLast ∈ gT_ := gm_ 509 (by decide +kernel)
theorem w_506 : Cond.code yX2_makeGrey cX2_makeGrey 2 none ∈ gT_ := gm_ 506 (by decide +kernel)
theorem w_504 : Cond.instanceMethod yX2_makeGrey ∈ gT_ := gm_ 504 (by decide +kernel)
theorem w_505 : Cond.selects "UrnHeap$Heap" yX2_makeGrey yX2_makeGrey ∈ gT_ := gm_ 505 (by decide +kernel)
theorem w_502 : Cond.code yX2_makeGreyInRound cX2_makeGreyInRound 2 none ∈ gT_ := gm_ 502 (by decide +kernel)
theorem w_500 : Cond.instanceMethod yX2_makeGreyInRound ∈ gT_ := gm_ 500 (by decide +kernel)
theorem w_501 : Cond.selects "UrnHeap$Heap" yX2_makeGreyInRound yX2_makeGreyInRound ∈ gT_ := gm_ 501 (by decide +kernel)
theorem w_545 : Cond.code yX11_isName cX11_isName 1 (some .boolean) ∈ gT_ := gm_ 545 (by decide +kernel)
theorem w_544 : Cond.static yX11_isName ∈ gT_ := gm_ 544 (by decide +kernel)
theorem w_1094 : Cond.code yX2_urnsOf cX2_urnsOf 4 (some .int) ∈ gT_ := gm_ 1094 (by decide +kernel)
theorem w_1092 : Cond.instanceMethod yX2_urnsOf ∈ gT_ := gm_ 1092 (by decide +kernel)
theorem w_1093 : Cond.selects "UrnHeap$Heap" yX2_urnsOf yX2_urnsOf ∈ gT_ := gm_ 1093 (by decide +kernel)
theorem w_567 : Cond.code yX2_holdersOf cX2_holdersOf 4 (some .int) ∈ gT_ := gm_ 567 (by decide +kernel)
theorem w_565 : Cond.instanceMethod yX2_holdersOf ∈ gT_ := gm_ 565 (by decide +kernel)
theorem w_566 : Cond.selects "UrnHeap$Heap" yX2_holdersOf yX2_holdersOf ∈ gT_ := gm_ 566 (by decide +kernel)
theorem w_621 : Cond.code yJ9_floorMod_7cf53 cJ9_floorMod_7cf53 3 (some .int) ∈ gT_ := gm_ 621 (by decide +kernel)
theorem w_620 : Cond.static yJ9_floorMod_7cf53 ∈ gT_ := gm_ 620 (by decide +kernel)
theorem w_1090 : Cond.code yX2_urns cX2_urns 1 (some .int) ∈ gT_ := gm_ 1090 (by decide +kernel)
theorem w_1088 : Cond.instanceMethod yX2_urns ∈ gT_ := gm_ 1088 (by decide +kernel)
theorem w_1089 : Cond.selects "UrnHeap$Heap" yX2_urns yX2_urns ∈ gT_ := gm_ 1089 (by decide +kernel)
theorem w_1116 : Cond.code yX2_areUrns cX2_areUrns 6 (some .boolean) ∈ gT_ := gm_ 1116 (by decide +kernel)
theorem w_1115 : Cond.instanceMethod yX2_areUrns ∈ gT_ := gm_ 1115 (by decide +kernel)
theorem w_24 : Cond.selects "UrnHeap$Heap" yX2_areUrns yX2_areUrns ∈ gT_ := gm_ 24 (by decide +kernel)
theorem w_1120 : Cond.code yX2_hasBlackToWhite cX2_hasBlackToWhite 2 (some .boolean) ∈ gT_ := gm_ 1120 (by decide +kernel)
theorem w_1119 : Cond.instanceMethod yX2_hasBlackToWhite ∈ gT_ := gm_ 1119 (by decide +kernel)
theorem w_25 : Cond.selects "UrnHeap$Heap" yX2_hasBlackToWhite yX2_hasBlackToWhite ∈ gT_ := gm_ 25 (by decide +kernel)
theorem w_85 : Cond.initialized "UrnHeap$History" ∈ gT_ := gm_ 85 (by decide +kernel)
theorem w_433 : Cond.code yX3_copyAtNext cX3_copyAtNext 1 (some (.object "UrnHeap$Heap")) ∈ gT_ := gm_ 433 (by decide +kernel)
theorem w_432 : Cond.instanceMethod yX3_copyAtNext ∈ gT_ := gm_ 432 (by decide +kernel)
theorem w_0 : Cond.selects "UrnHeap$History" yX3_copyAtNext yX3_copyAtNext ∈ gT_ := gm_ 0 (by decide +kernel)
theorem w_444 : Cond.code yX9_copyFrom cX9_copyFrom 2 none ∈ gT_ := gm_ 444 (by decide +kernel)
theorem w_442 : Cond.instanceMethod yX9_copyFrom ∈ gT_ := gm_ 442 (by decide +kernel)
theorem w_443 : Cond.selects "UrnHeap$Row" yX9_copyFrom yX9_copyFrom ∈ gT_ := gm_ 443 (by decide +kernel)
theorem w_437 : Cond.code yX2_copyFrom cX2_copyFrom 2 none ∈ gT_ := gm_ 437 (by decide +kernel)
theorem w_435 : Cond.instanceMethod yX2_copyFrom ∈ gT_ := gm_ 435 (by decide +kernel)
theorem w_436 : Cond.selects "UrnHeap$Heap" yX2_copyFrom yX2_copyFrom ∈ gT_ := gm_ 436 (by decide +kernel)
theorem w_468 : Cond.code yX3_isRefusal cX3_isRefusal 1 (some .boolean) ∈ gT_ := gm_ 468 (by decide +kernel)
theorem w_467 : Cond.static yX3_isRefusal ∈ gT_ := gm_ 467 (by decide +kernel)
theorem w_1002 : Cond.code yX3_takeBack cX3_takeBack 2 none ∈ gT_ := gm_ 1002 (by decide +kernel)
theorem w_1000 : Cond.instanceMethod yX3_takeBack ∈ gT_ := gm_ 1000 (by decide +kernel)
theorem w_1001 : Cond.selects "UrnHeap$History" yX3_takeBack yX3_takeBack ∈ gT_ := gm_ 1001 (by decide +kernel)
theorem w_86 : Cond.initialized "UrnHeap$Orders" ∈ gT_ := gm_ 86 (by decide +kernel)
theorem w_956 : Cond.code yX6_keep cX6_keep 2 none ∈ gT_ := gm_ 956 (by decide +kernel)
theorem w_955 : Cond.instanceMethod yX6_keep ∈ gT_ := gm_ 955 (by decide +kernel)
theorem w_20 : Cond.selects "UrnHeap$Orders" yX6_keep yX6_keep ∈ gT_ := gm_ 20 (by decide +kernel)
theorem w_84 : Cond.initialized "UrnHeap$Paths" ∈ gT_ := gm_ 84 (by decide +kernel)
theorem w_694 : Cond.code yX7_bit cX7_bit 1 (some .int) ∈ gT_ := gm_ 694 (by decide +kernel)
theorem w_693 : Cond.static yX7_bit ∈ gT_ := gm_ 693 (by decide +kernel)
theorem w_690 : Cond.code yX7_rootsByRite cX7_rootsByRite 4 (some .int) ∈ gT_ := gm_ 690 (by decide +kernel)
theorem w_689 : Cond.instanceMethod yX7_rootsByRite ∈ gT_ := gm_ 689 (by decide +kernel)
theorem w_8 : Cond.selects "UrnHeap$Paths" yX7_rootsByRite yX7_rootsByRite ∈ gT_ := gm_ 8 (by decide +kernel)
theorem w_686 : Cond.code yX7_roots cX7_roots 4 (some .int) ∈ gT_ := gm_ 686 (by decide +kernel)
theorem w_684 : Cond.instanceMethod yX7_roots ∈ gT_ := gm_ 684 (by decide +kernel)
theorem w_685 : Cond.selects "UrnHeap$Paths" yX7_roots yX7_roots ∈ gT_ := gm_ 685 (by decide +kernel)
theorem w_706 : Cond.code yX7_isIn cX7_isIn 2 (some .boolean) ∈ gT_ := gm_ 706 (by decide +kernel)
theorem w_705 : Cond.static yX7_isIn ∈ gT_ := gm_ 705 (by decide +kernel)
theorem w_710 : Cond.code yX7_targets cX7_targets 4 (some .int) ∈ gT_ := gm_ 710 (by decide +kernel)
theorem w_709 : Cond.instanceMethod yX7_targets ∈ gT_ := gm_ 709 (by decide +kernel)
theorem w_11 : Cond.selects "UrnHeap$Paths" yX7_targets yX7_targets ∈ gT_ := gm_ 11 (by decide +kernel)
theorem w_703 : Cond.code yX7_targetsOfAll cX7_targetsOfAll 4 (some .int) ∈ gT_ := gm_ 703 (by decide +kernel)
theorem w_702 : Cond.instanceMethod yX7_targetsOfAll ∈ gT_ := gm_ 702 (by decide +kernel)
theorem w_10 : Cond.selects "UrnHeap$Paths" yX7_targetsOfAll yX7_targetsOfAll ∈ gT_ := gm_ 10 (by decide +kernel)
theorem w_699 : Cond.code yX7_reachFrom cX7_reachFrom 5 (some .int) ∈ gT_ := gm_ 699 (by decide +kernel)
theorem w_698 : Cond.instanceMethod yX7_reachFrom ∈ gT_ := gm_ 698 (by decide +kernel)
theorem w_9 : Cond.selects "UrnHeap$Paths" yX7_reachFrom yX7_reachFrom ∈ gT_ := gm_ 9 (by decide +kernel)
theorem w_723 : Cond.code yX7_isHeldBySome cX7_isHeldBySome 4 (some .boolean) ∈ gT_ := gm_ 723 (by decide +kernel)
theorem w_722 : Cond.instanceMethod yX7_isHeldBySome ∈ gT_ := gm_ 722 (by decide +kernel)
theorem w_12 : Cond.selects "UrnHeap$Paths" yX7_isHeldBySome yX7_isHeldBySome ∈ gT_ := gm_ 12 (by decide +kernel)
theorem w_682 : Cond.code yX7_reach cX7_reach 1 (some .int) ∈ gT_ := gm_ 682 (by decide +kernel)
theorem w_680 : Cond.instanceMethod yX7_reach ∈ gT_ := gm_ 680 (by decide +kernel)
theorem w_681 : Cond.selects "UrnHeap$Paths" yX7_reach yX7_reach ∈ gT_ := gm_ 681 (by decide +kernel)
theorem w_732 : Cond.code yX7_distance cX7_distance 6 (some .int) ∈ gT_ := gm_ 732 (by decide +kernel)
theorem w_730 : Cond.instanceMethod yX7_distance ∈ gT_ := gm_ 730 (by decide +kernel)
theorem w_731 : Cond.selects "UrnHeap$Paths" yX7_distance yX7_distance ∈ gT_ := gm_ 731 (by decide +kernel)
theorem w_562 : Cond.code yX2_threadsFrom cX2_threadsFrom 4 (some .int) ∈ gT_ := gm_ 562 (by decide +kernel)
theorem w_560 : Cond.instanceMethod yX2_threadsFrom ∈ gT_ := gm_ 560 (by decide +kernel)
theorem w_561 : Cond.selects "UrnHeap$Heap" yX2_threadsFrom yX2_threadsFrom ∈ gT_ := gm_ 561 (by decide +kernel)
theorem w_770 : Cond.code yX7_weighAll cX7_weighAll 4 none ∈ gT_ := gm_ 770 (by decide +kernel)
theorem w_769 : Cond.instanceMethod yX7_weighAll ∈ gT_ := gm_ 769 (by decide +kernel)
theorem w_13 : Cond.selects "UrnHeap$Paths" yX7_weighAll yX7_weighAll ∈ gT_ := gm_ 13 (by decide +kernel)
theorem w_776 : Cond.code yX7_heavierThan cX7_heavierThan 7 (some .int) ∈ gT_ := gm_ 776 (by decide +kernel)
theorem w_775 : Cond.instanceMethod yX7_heavierThan ∈ gT_ := gm_ 775 (by decide +kernel)
theorem w_14 : Cond.selects "UrnHeap$Paths" yX7_heavierThan yX7_heavierThan ∈ gT_ := gm_ 14 (by decide +kernel)
theorem w_596 : Cond.code yX9_at cX9_at 2 (some .int) ∈ gT_ := gm_ 596 (by decide +kernel)
theorem w_594 : Cond.instanceMethod yX9_at ∈ gT_ := gm_ 594 (by decide +kernel)
theorem w_595 : Cond.selects "UrnHeap$Row" yX9_at yX9_at ∈ gT_ := gm_ 595 (by decide +kernel)
theorem w_83 : Cond.initialized "UrnHeap$Sexton" ∈ gT_ := gm_ 83 (by decide +kernel)
theorem w_591 : Cond.code yX10_markRoots cX10_markRoots 2 none ∈ gT_ := gm_ 591 (by decide +kernel)
theorem w_590 : Cond.instanceMethod yX10_markRoots ∈ gT_ := gm_ 590 (by decide +kernel)
theorem w_2 : Cond.selects "UrnHeap$Sexton" yX10_markRoots yX10_markRoots ∈ gT_ := gm_ 2 (by decide +kernel)
theorem w_636 : Cond.code yX10_makeRitesDue cX10_makeRitesDue 3 (some .boolean) ∈ gT_ := gm_ 636 (by decide +kernel)
theorem w_635 : Cond.instanceMethod yX10_makeRitesDue ∈ gT_ := gm_ 635 (by decide +kernel)
theorem w_6 : Cond.selects "UrnHeap$Sexton" yX10_makeRitesDue yX10_makeRitesDue ∈ gT_ := gm_ 6 (by decide +kernel)
theorem w_641 : Cond.code yX10_beginSweep cX10_beginSweep 2 none ∈ gT_ := gm_ 641 (by decide +kernel)
theorem w_640 : Cond.instanceMethod yX10_beginSweep ∈ gT_ := gm_ 640 (by decide +kernel)
theorem w_7 : Cond.selects "UrnHeap$Sexton" yX10_beginSweep yX10_beginSweep ∈ gT_ := gm_ 7 (by decide +kernel)
theorem w_630 : Cond.code yX9_takeFirst cX9_takeFirst 2 (some .int) ∈ gT_ := gm_ 630 (by decide +kernel)
theorem w_628 : Cond.instanceMethod yX9_takeFirst ∈ gT_ := gm_ 628 (by decide +kernel)
theorem w_629 : Cond.selects "UrnHeap$Row" yX9_takeFirst yX9_takeFirst ∈ gT_ := gm_ 629 (by decide +kernel)
theorem w_626 : Cond.code yX10_blackenFirst cX10_blackenFirst 3 none ∈ gT_ := gm_ 626 (by decide +kernel)
theorem w_625 : Cond.instanceMethod yX10_blackenFirst ∈ gT_ := gm_ 625 (by decide +kernel)
theorem w_5 : Cond.selects "UrnHeap$Sexton" yX10_blackenFirst yX10_blackenFirst ∈ gT_ := gm_ 5 (by decide +kernel)
theorem w_617 : Cond.code yX2_free cX2_free 3 none ∈ gT_ := gm_ 617 (by decide +kernel)
theorem w_615 : Cond.instanceMethod yX2_free ∈ gT_ := gm_ 615 (by decide +kernel)
theorem w_616 : Cond.selects "UrnHeap$Heap" yX2_free yX2_free ∈ gT_ := gm_ 616 (by decide +kernel)
theorem w_612 : Cond.code yX10_sweepNext cX10_sweepNext 2 none ∈ gT_ := gm_ 612 (by decide +kernel)
theorem w_611 : Cond.instanceMethod yX10_sweepNext ∈ gT_ := gm_ 611 (by decide +kernel)
theorem w_4 : Cond.selects "UrnHeap$Sexton" yX10_sweepNext yX10_sweepNext ∈ gT_ := gm_ 4 (by decide +kernel)
theorem w_608 : Cond.code yX10_doPartsUntilOver cX10_doPartsUntilOver 3 (some .int) ∈ gT_ := gm_ 608 (by decide +kernel)
theorem w_607 : Cond.instanceMethod yX10_doPartsUntilOver ∈ gT_ := gm_ 607 (by decide +kernel)
theorem w_3 : Cond.selects "UrnHeap$Sexton" yX10_doPartsUntilOver yX10_doPartsUntilOver ∈ gT_ := gm_ 3 (by decide +kernel)
theorem w_429 : Cond.code yX3_keepBefore cX3_keepBefore 2 none ∈ gT_ := gm_ 429 (by decide +kernel)
theorem w_427 : Cond.instanceMethod yX3_keepBefore ∈ gT_ := gm_ 427 (by decide +kernel)
theorem w_428 : Cond.selects "UrnHeap$History" yX3_keepBefore yX3_keepBefore ∈ gT_ := gm_ 428 (by decide +kernel)
theorem w_449 : Cond.code yX1_makeUrn cX1_makeUrn 3 (some .int) ∈ gT_ := gm_ 449 (by decide +kernel)
theorem w_447 : Cond.instanceMethod yX1_makeUrn ∈ gT_ := gm_ 447 (by decide +kernel)
theorem w_448 : Cond.selects "UrnHeap$Hands" yX1_makeUrn yX1_makeUrn ∈ gT_ := gm_ 448 (by decide +kernel)
theorem w_465 : Cond.code yX3_settle cX3_settle 2 (some .int) ∈ gT_ := gm_ 465 (by decide +kernel)
theorem w_463 : Cond.instanceMethod yX3_settle ∈ gT_ := gm_ 463 (by decide +kernel)
theorem w_464 : Cond.selects "UrnHeap$History" yX3_settle yX3_settle ∈ gT_ := gm_ 464 (by decide +kernel)
theorem w_479 : Cond.code yX1_tieThread cX1_tieThread 5 (some .int) ∈ gT_ := gm_ 479 (by decide +kernel)
theorem w_477 : Cond.instanceMethod yX1_tieThread ∈ gT_ := gm_ 477 (by decide +kernel)
theorem w_478 : Cond.selects "UrnHeap$Hands" yX1_tieThread yX1_tieThread ∈ gT_ := gm_ 478 (by decide +kernel)
theorem w_518 : Cond.code yX1_takeThread cX1_takeThread 4 (some .int) ∈ gT_ := gm_ 518 (by decide +kernel)
theorem w_516 : Cond.instanceMethod yX1_takeThread ∈ gT_ := gm_ 516 (by decide +kernel)
theorem w_517 : Cond.selects "UrnHeap$Hands" yX1_takeThread yX1_takeThread ∈ gT_ := gm_ 517 (by decide +kernel)
theorem w_526 : Cond.code yX1_tieWeak cX1_tieWeak 4 (some .int) ∈ gT_ := gm_ 526 (by decide +kernel)
theorem w_524 : Cond.instanceMethod yX1_tieWeak ∈ gT_ := gm_ 524 (by decide +kernel)
theorem w_525 : Cond.selects "UrnHeap$Hands" yX1_tieWeak yX1_tieWeak ∈ gT_ := gm_ 525 (by decide +kernel)
theorem w_534 : Cond.code yX1_takeWeak cX1_takeWeak 3 (some .int) ∈ gT_ := gm_ 534 (by decide +kernel)
theorem w_532 : Cond.instanceMethod yX1_takeWeak ∈ gT_ := gm_ 532 (by decide +kernel)
theorem w_533 : Cond.selects "UrnHeap$Hands" yX1_takeWeak yX1_takeWeak ∈ gT_ := gm_ 533 (by decide +kernel)
theorem w_542 : Cond.code yX1_giveName cX1_giveName 4 (some .int) ∈ gT_ := gm_ 542 (by decide +kernel)
theorem w_540 : Cond.instanceMethod yX1_giveName ∈ gT_ := gm_ 540 (by decide +kernel)
theorem w_541 : Cond.selects "UrnHeap$Hands" yX1_giveName yX1_giveName ∈ gT_ := gm_ 541 (by decide +kernel)
theorem w_553 : Cond.code yX1_takeName cX1_takeName 3 (some .int) ∈ gT_ := gm_ 553 (by decide +kernel)
theorem w_551 : Cond.instanceMethod yX1_takeName ∈ gT_ := gm_ 551 (by decide +kernel)
theorem w_552 : Cond.selects "UrnHeap$Hands" yX1_takeName yX1_takeName ∈ gT_ := gm_ 552 (by decide +kernel)
theorem w_586 : Cond.code yX10_beginRound cX10_beginRound 1 (some .int) ∈ gT_ := gm_ 586 (by decide +kernel)
theorem w_584 : Cond.instanceMethod yX10_beginRound ∈ gT_ := gm_ 584 (by decide +kernel)
theorem w_585 : Cond.selects "UrnHeap$Sexton" yX10_beginRound yX10_beginRound ∈ gT_ := gm_ 585 (by decide +kernel)
theorem w_604 : Cond.code yX10_doParts cX10_doParts 2 (some .int) ∈ gT_ := gm_ 604 (by decide +kernel)
theorem w_602 : Cond.instanceMethod yX10_doParts ∈ gT_ := gm_ 602 (by decide +kernel)
theorem w_603 : Cond.selects "UrnHeap$Sexton" yX10_doParts yX10_doParts ∈ gT_ := gm_ 603 (by decide +kernel)
theorem w_649 : Cond.code yX10_endRound cX10_endRound 2 (some .int) ∈ gT_ := gm_ 649 (by decide +kernel)
theorem w_647 : Cond.instanceMethod yX10_endRound ∈ gT_ := gm_ 647 (by decide +kernel)
theorem w_648 : Cond.selects "UrnHeap$Sexton" yX10_endRound yX10_endRound ∈ gT_ := gm_ 648 (by decide +kernel)
theorem w_657 : Cond.code yX10_doRite cX10_doRite 2 (some .int) ∈ gT_ := gm_ 657 (by decide +kernel)
theorem w_655 : Cond.instanceMethod yX10_doRite ∈ gT_ := gm_ 655 (by decide +kernel)
theorem w_656 : Cond.selects "UrnHeap$Sexton" yX10_doRite yX10_doRite ∈ gT_ := gm_ 656 (by decide +kernel)
theorem w_674 : Cond.code yX2_freedLate cX2_freedLate 2 (some .int) ∈ gT_ := gm_ 674 (by decide +kernel)
theorem w_672 : Cond.instanceMethod yX2_freedLate ∈ gT_ := gm_ 672 (by decide +kernel)
theorem w_673 : Cond.selects "UrnHeap$Heap" yX2_freedLate yX2_freedLate ∈ gT_ := gm_ 673 (by decide +kernel)
theorem w_719 : Cond.code yX7_reachUrnByUrn cX7_reachUrnByUrn 5 (some .int) ∈ gT_ := gm_ 719 (by decide +kernel)
theorem w_717 : Cond.instanceMethod yX7_reachUrnByUrn ∈ gT_ := gm_ 717 (by decide +kernel)
theorem w_718 : Cond.selects "UrnHeap$Paths" yX7_reachUrnByUrn yX7_reachUrnByUrn ∈ gT_ := gm_ 718 (by decide +kernel)
theorem w_740 : Cond.code yX7_neededNames cX7_neededNames 4 (some .int) ∈ gT_ := gm_ 740 (by decide +kernel)
theorem w_738 : Cond.instanceMethod yX7_neededNames ∈ gT_ := gm_ 738 (by decide +kernel)
theorem w_739 : Cond.selects "UrnHeap$Paths" yX7_neededNames yX7_neededNames ∈ gT_ := gm_ 739 (by decide +kernel)
theorem w_749 : Cond.code yX7_ringLength cX7_ringLength 3 (some .int) ∈ gT_ := gm_ 749 (by decide +kernel)
theorem w_747 : Cond.instanceMethod yX7_ringLength ∈ gT_ := gm_ 747 (by decide +kernel)
theorem w_748 : Cond.selects "UrnHeap$Paths" yX7_ringLength yX7_ringLength ∈ gT_ := gm_ 748 (by decide +kernel)
theorem w_758 : Cond.code yX7_leftOver cX7_leftOver 4 (some .int) ∈ gT_ := gm_ 758 (by decide +kernel)
theorem w_756 : Cond.instanceMethod yX7_leftOver ∈ gT_ := gm_ 756 (by decide +kernel)
theorem w_757 : Cond.selects "UrnHeap$Paths" yX7_leftOver yX7_leftOver ∈ gT_ := gm_ 757 (by decide +kernel)
theorem w_766 : Cond.code yX7_urnAtRank cX7_urnAtRank 3 (some .int) ∈ gT_ := gm_ 766 (by decide +kernel)
theorem w_764 : Cond.instanceMethod yX7_urnAtRank ∈ gT_ := gm_ 764 (by decide +kernel)
theorem w_765 : Cond.selects "UrnHeap$Paths" yX7_urnAtRank yX7_urnAtRank ∈ gT_ := gm_ 765 (by decide +kernel)
theorem w_1099 : Cond.code yX2_namesInUse cX2_namesInUse 3 (some .int) ∈ gT_ := gm_ 1099 (by decide +kernel)
theorem w_1097 : Cond.instanceMethod yX2_namesInUse ∈ gT_ := gm_ 1097 (by decide +kernel)
theorem w_1098 : Cond.selects "UrnHeap$Heap" yX2_namesInUse yX2_namesInUse ∈ gT_ := gm_ 1098 (by decide +kernel)
theorem w_1111 : Cond.code yX2_isSound cX2_isSound 1 (some .boolean) ∈ gT_ := gm_ 1111 (by decide +kernel)
theorem w_1109 : Cond.instanceMethod yX2_isSound ∈ gT_ := gm_ 1109 (by decide +kernel)
theorem w_1110 : Cond.selects "UrnHeap$Heap" yX2_isSound yX2_isSound ∈ gT_ := gm_ 1110 (by decide +kernel)
theorem w_1128 : Cond.code yX2_holdersOfAll cX2_holdersOfAll 3 (some .int) ∈ gT_ := gm_ 1128 (by decide +kernel)
theorem w_1126 : Cond.instanceMethod yX2_holdersOfAll ∈ gT_ := gm_ 1126 (by decide +kernel)
theorem w_1127 : Cond.selects "UrnHeap$Heap" yX2_holdersOfAll yX2_holdersOfAll ∈ gT_ := gm_ 1127 (by decide +kernel)
theorem w_1147 : Cond.code yX3_undoLatest cX3_undoLatest 1 (some .int) ∈ gT_ := gm_ 1147 (by decide +kernel)
theorem w_1145 : Cond.instanceMethod yX3_undoLatest ∈ gT_ := gm_ 1145 (by decide +kernel)
theorem w_1146 : Cond.selects "UrnHeap$History" yX3_undoLatest yX3_undoLatest ∈ gT_ := gm_ 1146 (by decide +kernel)
theorem w_1156 : Cond.code yX3_saveNow cX3_saveNow 1 (some .int) ∈ gT_ := gm_ 1156 (by decide +kernel)
theorem w_1154 : Cond.instanceMethod yX3_saveNow ∈ gT_ := gm_ 1154 (by decide +kernel)
theorem w_1155 : Cond.selects "UrnHeap$History" yX3_saveNow yX3_saveNow ∈ gT_ := gm_ 1155 (by decide +kernel)
theorem w_1165 : Cond.code yX3_restoreSaved cX3_restoreSaved 1 (some .int) ∈ gT_ := gm_ 1165 (by decide +kernel)
theorem w_1163 : Cond.instanceMethod yX3_restoreSaved ∈ gT_ := gm_ 1163 (by decide +kernel)
theorem w_1164 : Cond.selects "UrnHeap$History" yX3_restoreSaved yX3_restoreSaved ∈ gT_ := gm_ 1164 (by decide +kernel)
theorem w_989 : Cond.code yX6_has cX6_has 2 (some .boolean) ∈ gT_ := gm_ 989 (by decide +kernel)
theorem w_987 : Cond.instanceMethod yX6_has ∈ gT_ := gm_ 987 (by decide +kernel)
theorem w_988 : Cond.selects "UrnHeap$Orders" yX6_has yX6_has ∈ gT_ := gm_ 988 (by decide +kernel)
theorem ca_X8_refuse : ca_ yX8_refuse cX8_refuse 3 (some .int) 2 := ⟨w_81, w_461, by decide, by decide, by decide +kernel⟩
theorem cv_X8_refuse : cv_ yX8_refuse := ⟨w_459, w_460⟩
theorem ca_X1_colourOfNew : ca_ yX1_colourOfNew cX1_colourOfNew 3 (some .int) 1 := ⟨w_82, w_457, by decide, by decide, by decide +kernel⟩
theorem cv_X1_colourOfNew : cv_ yX1_colourOfNew := ⟨w_456, w_1⟩
theorem ca_X2_hasUrn : ca_ yX2_hasUrn cX2_hasUrn 2 (some .boolean) 1 := ⟨w_78, w_453, by decide, by decide, by decide +kernel⟩
theorem cv_X2_hasUrn : cv_ yX2_hasUrn := ⟨w_451, w_452⟩
theorem ca_X11_isSlot : ca_ yX11_isSlot cX11_isSlot 1 (some .boolean) 1 := ⟨w_77, w_482, by decide, by decide, by decide +kernel⟩
theorem cs_X11_isSlot : Cond.static yX11_isSlot ∈ gT_ := w_481
theorem ca_X2_isWhite : ca_ yX2_isWhite cX2_isWhite 2 (some .boolean) 1 := ⟨w_78, w_490, by decide, by decide, by decide +kernel⟩
theorem cv_X2_isWhite : cv_ yX2_isWhite := ⟨w_488, w_489⟩
theorem ca_X2_isToBeSwept : ca_ yX2_isToBeSwept cX2_isToBeSwept 2 (some .boolean) 1 := ⟨w_78, w_486, by decide, by decide, by decide +kernel⟩
theorem cv_X2_isToBeSwept : cv_ yX2_isToBeSwept := ⟨w_484, w_485⟩
theorem ca_X11_isCell : ca_ yX11_isCell cX11_isCell 1 (some .boolean) 1 := ⟨w_77, w_497, by decide, by decide, by decide +kernel⟩
theorem cs_X11_isCell : Cond.static yX11_isCell ∈ gT_ := w_496
theorem ca_X2_target : ca_ yX2_target cX2_target 3 (some .int) 2 := ⟨w_78, w_494, by decide, by decide, by decide +kernel⟩
theorem cv_X2_target : cv_ yX2_target := ⟨w_492, w_493⟩
theorem ca_X9_addLast : ca_ yX9_addLast cX9_addLast 2 none 1 := ⟨w_79, w_510, by decide, by decide, by decide +kernel⟩
theorem cv_X9_addLast : cv_ yX9_addLast := ⟨w_508, w_509⟩
theorem ca_X2_makeGrey : ca_ yX2_makeGrey cX2_makeGrey 2 none 1 := ⟨w_78, w_506, by decide, by decide, by decide +kernel⟩
theorem cv_X2_makeGrey : cv_ yX2_makeGrey := ⟨w_504, w_505⟩
theorem ca_X2_makeGreyInRound : ca_ yX2_makeGreyInRound cX2_makeGreyInRound 2 none 1 := ⟨w_78, w_502, by decide, by decide, by decide +kernel⟩
theorem cv_X2_makeGreyInRound : cv_ yX2_makeGreyInRound := ⟨w_500, w_501⟩
theorem ca_X11_isName : ca_ yX11_isName cX11_isName 1 (some .boolean) 1 := ⟨w_77, w_545, by decide, by decide, by decide +kernel⟩
theorem cs_X11_isName : Cond.static yX11_isName ∈ gT_ := w_544
theorem ca_X2_urnsOf : ca_ yX2_urnsOf cX2_urnsOf 4 (some .int) 1 := ⟨w_78, w_1094, by decide, by decide, by decide +kernel⟩
theorem cv_X2_urnsOf : cv_ yX2_urnsOf := ⟨w_1092, w_1093⟩
theorem ca_X2_holdersOf : ca_ yX2_holdersOf cX2_holdersOf 4 (some .int) 1 := ⟨w_78, w_567, by decide, by decide, by decide +kernel⟩
theorem cv_X2_holdersOf : cv_ yX2_holdersOf := ⟨w_565, w_566⟩
theorem ca_J9_floorMod_7cf53 : ca_ yJ9_floorMod_7cf53 cJ9_floorMod_7cf53 3 (some .int) 2 := ⟨w_94, w_621, by decide, by decide, by decide +kernel⟩
theorem cs_J9_floorMod_7cf53 : Cond.static yJ9_floorMod_7cf53 ∈ gT_ := w_620
theorem ca_X2_urns : ca_ yX2_urns cX2_urns 1 (some .int) 0 := ⟨w_78, w_1090, by decide, by decide, by decide +kernel⟩
theorem cv_X2_urns : cv_ yX2_urns := ⟨w_1088, w_1089⟩
theorem ca_X2_areUrns : ca_ yX2_areUrns cX2_areUrns 6 (some .boolean) 1 := ⟨w_78, w_1116, by decide, by decide, by decide +kernel⟩
theorem cv_X2_areUrns : cv_ yX2_areUrns := ⟨w_1115, w_24⟩
theorem ca_X2_hasBlackToWhite : ca_ yX2_hasBlackToWhite cX2_hasBlackToWhite 2 (some .boolean) 0 := ⟨w_78, w_1120, by decide, by decide, by decide +kernel⟩
theorem cv_X2_hasBlackToWhite : cv_ yX2_hasBlackToWhite := ⟨w_1119, w_25⟩
theorem ca_X3_copyAtNext : ca_ yX3_copyAtNext cX3_copyAtNext 1 (some (.object "UrnHeap$Heap")) 0 := ⟨w_85, w_433, by decide, by decide, by decide +kernel⟩
theorem cv_X3_copyAtNext : cv_ yX3_copyAtNext := ⟨w_432, w_0⟩
theorem ca_X9_copyFrom : ca_ yX9_copyFrom cX9_copyFrom 2 none 1 := ⟨w_79, w_444, by decide, by decide, by decide +kernel⟩
theorem cv_X9_copyFrom : cv_ yX9_copyFrom := ⟨w_442, w_443⟩
theorem ca_X2_copyFrom : ca_ yX2_copyFrom cX2_copyFrom 2 none 1 := ⟨w_78, w_437, by decide, by decide, by decide +kernel⟩
theorem cv_X2_copyFrom : cv_ yX2_copyFrom := ⟨w_435, w_436⟩
theorem ca_X3_isRefusal : ca_ yX3_isRefusal cX3_isRefusal 1 (some .boolean) 1 := ⟨w_85, w_468, by decide, by decide, by decide +kernel⟩
theorem cs_X3_isRefusal : Cond.static yX3_isRefusal ∈ gT_ := w_467
theorem ca_X3_takeBack : ca_ yX3_takeBack cX3_takeBack 2 none 0 := ⟨w_85, w_1002, by decide, by decide, by decide +kernel⟩
theorem cv_X3_takeBack : cv_ yX3_takeBack := ⟨w_1000, w_1001⟩
theorem ca_X6_keep : ca_ yX6_keep cX6_keep 2 none 1 := ⟨w_86, w_956, by decide, by decide, by decide +kernel⟩
theorem cv_X6_keep : cv_ yX6_keep := ⟨w_955, w_20⟩
theorem ca_X7_bit : ca_ yX7_bit cX7_bit 1 (some .int) 1 := ⟨w_84, w_694, by decide, by decide, by decide +kernel⟩
theorem cs_X7_bit : Cond.static yX7_bit ∈ gT_ := w_693
theorem ca_X7_rootsByRite : ca_ yX7_rootsByRite cX7_rootsByRite 4 (some .int) 1 := ⟨w_84, w_690, by decide, by decide, by decide +kernel⟩
theorem cv_X7_rootsByRite : cv_ yX7_rootsByRite := ⟨w_689, w_8⟩
theorem ca_X7_roots : ca_ yX7_roots cX7_roots 4 (some .int) 1 := ⟨w_84, w_686, by decide, by decide, by decide +kernel⟩
theorem cv_X7_roots : cv_ yX7_roots := ⟨w_684, w_685⟩
theorem ca_X7_isIn : ca_ yX7_isIn cX7_isIn 2 (some .boolean) 2 := ⟨w_84, w_706, by decide, by decide, by decide +kernel⟩
theorem cs_X7_isIn : Cond.static yX7_isIn ∈ gT_ := w_705
theorem ca_X7_targets : ca_ yX7_targets cX7_targets 4 (some .int) 1 := ⟨w_84, w_710, by decide, by decide, by decide +kernel⟩
theorem cv_X7_targets : cv_ yX7_targets := ⟨w_709, w_11⟩
theorem ca_X7_targetsOfAll : ca_ yX7_targetsOfAll cX7_targetsOfAll 4 (some .int) 1 := ⟨w_84, w_703, by decide, by decide, by decide +kernel⟩
theorem cv_X7_targetsOfAll : cv_ yX7_targetsOfAll := ⟨w_702, w_10⟩
theorem ca_X7_reachFrom : ca_ yX7_reachFrom cX7_reachFrom 5 (some .int) 1 := ⟨w_84, w_699, by decide, by decide, by decide +kernel⟩
theorem cv_X7_reachFrom : cv_ yX7_reachFrom := ⟨w_698, w_9⟩
theorem ca_X7_isHeldBySome : ca_ yX7_isHeldBySome cX7_isHeldBySome 4 (some .boolean) 2 := ⟨w_84, w_723, by decide, by decide, by decide +kernel⟩
theorem cv_X7_isHeldBySome : cv_ yX7_isHeldBySome := ⟨w_722, w_12⟩
theorem ca_X7_reach : ca_ yX7_reach cX7_reach 1 (some .int) 0 := ⟨w_84, w_682, by decide, by decide, by decide +kernel⟩
theorem cv_X7_reach : cv_ yX7_reach := ⟨w_680, w_681⟩
theorem ca_X7_distance : ca_ yX7_distance cX7_distance 6 (some .int) 2 := ⟨w_84, w_732, by decide, by decide, by decide +kernel⟩
theorem cv_X7_distance : cv_ yX7_distance := ⟨w_730, w_731⟩
theorem ca_X2_threadsFrom : ca_ yX2_threadsFrom cX2_threadsFrom 4 (some .int) 1 := ⟨w_78, w_562, by decide, by decide, by decide +kernel⟩
theorem cv_X2_threadsFrom : cv_ yX2_threadsFrom := ⟨w_560, w_561⟩
theorem ca_X7_weighAll : ca_ yX7_weighAll cX7_weighAll 4 none 0 := ⟨w_84, w_770, by decide, by decide, by decide +kernel⟩
theorem cv_X7_weighAll : cv_ yX7_weighAll := ⟨w_769, w_13⟩
theorem ca_X7_heavierThan : ca_ yX7_heavierThan cX7_heavierThan 7 (some .int) 1 := ⟨w_84, w_776, by decide, by decide, by decide +kernel⟩
theorem cv_X7_heavierThan : cv_ yX7_heavierThan := ⟨w_775, w_14⟩
theorem ca_X9_at : ca_ yX9_at cX9_at 2 (some .int) 1 := ⟨w_79, w_596, by decide, by decide, by decide +kernel⟩
theorem cv_X9_at : cv_ yX9_at := ⟨w_594, w_595⟩
theorem ca_X10_markRoots : ca_ yX10_markRoots cX10_markRoots 2 none 0 := ⟨w_83, w_591, by decide, by decide, by decide +kernel⟩
theorem cv_X10_markRoots : cv_ yX10_markRoots := ⟨w_590, w_2⟩
theorem ca_X10_makeRitesDue : ca_ yX10_makeRitesDue cX10_makeRitesDue 3 (some .boolean) 0 := ⟨w_83, w_636, by decide, by decide, by decide +kernel⟩
theorem cv_X10_makeRitesDue : cv_ yX10_makeRitesDue := ⟨w_635, w_6⟩
theorem ca_X10_beginSweep : ca_ yX10_beginSweep cX10_beginSweep 2 none 0 := ⟨w_83, w_641, by decide, by decide, by decide +kernel⟩
theorem cv_X10_beginSweep : cv_ yX10_beginSweep := ⟨w_640, w_7⟩
theorem ca_X9_takeFirst : ca_ yX9_takeFirst cX9_takeFirst 2 (some .int) 0 := ⟨w_79, w_630, by decide, by decide, by decide +kernel⟩
theorem cv_X9_takeFirst : cv_ yX9_takeFirst := ⟨w_628, w_629⟩
theorem ca_X10_blackenFirst : ca_ yX10_blackenFirst cX10_blackenFirst 3 none 0 := ⟨w_83, w_626, by decide, by decide, by decide +kernel⟩
theorem cv_X10_blackenFirst : cv_ yX10_blackenFirst := ⟨w_625, w_5⟩
theorem ca_X2_free : ca_ yX2_free cX2_free 3 none 1 := ⟨w_78, w_617, by decide, by decide, by decide +kernel⟩
theorem cv_X2_free : cv_ yX2_free := ⟨w_615, w_616⟩
theorem ca_X10_sweepNext : ca_ yX10_sweepNext cX10_sweepNext 2 none 0 := ⟨w_83, w_612, by decide, by decide, by decide +kernel⟩
theorem cv_X10_sweepNext : cv_ yX10_sweepNext := ⟨w_611, w_4⟩
theorem ca_X10_doPartsUntilOver : ca_ yX10_doPartsUntilOver cX10_doPartsUntilOver 3 (some .int) 1 := ⟨w_83, w_608, by decide, by decide, by decide +kernel⟩
theorem cv_X10_doPartsUntilOver : cv_ yX10_doPartsUntilOver := ⟨w_607, w_3⟩
theorem ca_X3_keepBefore : ca_ yX3_keepBefore cX3_keepBefore 2 none 0 := ⟨w_85, w_429, by decide, by decide, by decide +kernel⟩
theorem cv_X3_keepBefore : cv_ yX3_keepBefore := ⟨w_427, w_428⟩
theorem ca_X1_makeUrn : ca_ yX1_makeUrn cX1_makeUrn 3 (some .int) 1 := ⟨w_82, w_449, by decide, by decide, by decide +kernel⟩
theorem cv_X1_makeUrn : cv_ yX1_makeUrn := ⟨w_447, w_448⟩
theorem ca_X3_settle : ca_ yX3_settle cX3_settle 2 (some .int) 1 := ⟨w_85, w_465, by decide, by decide, by decide +kernel⟩
theorem cv_X3_settle : cv_ yX3_settle := ⟨w_463, w_464⟩
theorem ca_X1_tieThread : ca_ yX1_tieThread cX1_tieThread 5 (some .int) 3 := ⟨w_82, w_479, by decide, by decide, by decide +kernel⟩
theorem cv_X1_tieThread : cv_ yX1_tieThread := ⟨w_477, w_478⟩
theorem ca_X1_takeThread : ca_ yX1_takeThread cX1_takeThread 4 (some .int) 2 := ⟨w_82, w_518, by decide, by decide, by decide +kernel⟩
theorem cv_X1_takeThread : cv_ yX1_takeThread := ⟨w_516, w_517⟩
theorem ca_X1_tieWeak : ca_ yX1_tieWeak cX1_tieWeak 4 (some .int) 2 := ⟨w_82, w_526, by decide, by decide, by decide +kernel⟩
theorem cv_X1_tieWeak : cv_ yX1_tieWeak := ⟨w_524, w_525⟩
theorem ca_X1_takeWeak : ca_ yX1_takeWeak cX1_takeWeak 3 (some .int) 1 := ⟨w_82, w_534, by decide, by decide, by decide +kernel⟩
theorem cv_X1_takeWeak : cv_ yX1_takeWeak := ⟨w_532, w_533⟩
theorem ca_X1_giveName : ca_ yX1_giveName cX1_giveName 4 (some .int) 2 := ⟨w_82, w_542, by decide, by decide, by decide +kernel⟩
theorem cv_X1_giveName : cv_ yX1_giveName := ⟨w_540, w_541⟩
theorem ca_X1_takeName : ca_ yX1_takeName cX1_takeName 3 (some .int) 1 := ⟨w_82, w_553, by decide, by decide, by decide +kernel⟩
theorem cv_X1_takeName : cv_ yX1_takeName := ⟨w_551, w_552⟩
theorem ca_X10_beginRound : ca_ yX10_beginRound cX10_beginRound 1 (some .int) 0 := ⟨w_83, w_586, by decide, by decide, by decide +kernel⟩
theorem cv_X10_beginRound : cv_ yX10_beginRound := ⟨w_584, w_585⟩
theorem ca_X10_doParts : ca_ yX10_doParts cX10_doParts 2 (some .int) 1 := ⟨w_83, w_604, by decide, by decide, by decide +kernel⟩
theorem cv_X10_doParts : cv_ yX10_doParts := ⟨w_602, w_603⟩
theorem ca_X10_endRound : ca_ yX10_endRound cX10_endRound 2 (some .int) 0 := ⟨w_83, w_649, by decide, by decide, by decide +kernel⟩
theorem cv_X10_endRound : cv_ yX10_endRound := ⟨w_647, w_648⟩
theorem ca_X10_doRite : ca_ yX10_doRite cX10_doRite 2 (some .int) 0 := ⟨w_83, w_657, by decide, by decide, by decide +kernel⟩
theorem cv_X10_doRite : cv_ yX10_doRite := ⟨w_655, w_656⟩
theorem ca_X2_freedLate : ca_ yX2_freedLate cX2_freedLate 2 (some .int) 1 := ⟨w_78, w_674, by decide, by decide, by decide +kernel⟩
theorem cv_X2_freedLate : cv_ yX2_freedLate := ⟨w_672, w_673⟩
theorem ca_X7_reachUrnByUrn : ca_ yX7_reachUrnByUrn cX7_reachUrnByUrn 5 (some .int) 0 := ⟨w_84, w_719, by decide, by decide, by decide +kernel⟩
theorem cv_X7_reachUrnByUrn : cv_ yX7_reachUrnByUrn := ⟨w_717, w_718⟩
theorem ca_X7_neededNames : ca_ yX7_neededNames cX7_neededNames 4 (some .int) 1 := ⟨w_84, w_740, by decide, by decide, by decide +kernel⟩
theorem cv_X7_neededNames : cv_ yX7_neededNames := ⟨w_738, w_739⟩
theorem ca_X7_ringLength : ca_ yX7_ringLength cX7_ringLength 3 (some .int) 1 := ⟨w_84, w_749, by decide, by decide, by decide +kernel⟩
theorem cv_X7_ringLength : cv_ yX7_ringLength := ⟨w_747, w_748⟩
theorem ca_X7_leftOver : ca_ yX7_leftOver cX7_leftOver 4 (some .int) 0 := ⟨w_84, w_758, by decide, by decide, by decide +kernel⟩
theorem cv_X7_leftOver : cv_ yX7_leftOver := ⟨w_756, w_757⟩
theorem ca_X7_urnAtRank : ca_ yX7_urnAtRank cX7_urnAtRank 3 (some .int) 1 := ⟨w_84, w_766, by decide, by decide, by decide +kernel⟩
theorem cv_X7_urnAtRank : cv_ yX7_urnAtRank := ⟨w_764, w_765⟩
theorem ca_X2_namesInUse : ca_ yX2_namesInUse cX2_namesInUse 3 (some .int) 0 := ⟨w_78, w_1099, by decide, by decide, by decide +kernel⟩
theorem cv_X2_namesInUse : cv_ yX2_namesInUse := ⟨w_1097, w_1098⟩
theorem ca_X2_isSound : ca_ yX2_isSound cX2_isSound 1 (some .boolean) 0 := ⟨w_78, w_1111, by decide, by decide, by decide +kernel⟩
theorem cv_X2_isSound : cv_ yX2_isSound := ⟨w_1109, w_1110⟩
theorem ca_X2_holdersOfAll : ca_ yX2_holdersOfAll cX2_holdersOfAll 3 (some .int) 0 := ⟨w_78, w_1128, by decide, by decide, by decide +kernel⟩
theorem cv_X2_holdersOfAll : cv_ yX2_holdersOfAll := ⟨w_1126, w_1127⟩
theorem ca_X3_undoLatest : ca_ yX3_undoLatest cX3_undoLatest 1 (some .int) 0 := ⟨w_85, w_1147, by decide, by decide, by decide +kernel⟩
theorem cv_X3_undoLatest : cv_ yX3_undoLatest := ⟨w_1145, w_1146⟩
theorem ca_X3_saveNow : ca_ yX3_saveNow cX3_saveNow 1 (some .int) 0 := ⟨w_85, w_1156, by decide, by decide, by decide +kernel⟩
theorem cv_X3_saveNow : cv_ yX3_saveNow := ⟨w_1154, w_1155⟩
theorem ca_X3_restoreSaved : ca_ yX3_restoreSaved cX3_restoreSaved 1 (some .int) 0 := ⟨w_85, w_1165, by decide, by decide, by decide +kernel⟩
theorem cv_X3_restoreSaved : cv_ yX3_restoreSaved := ⟨w_1163, w_1164⟩
theorem ca_X6_has : ca_ yX6_has cX6_has 2 (some .boolean) 1 := ⟨w_86, w_989, by decide, by decide, by decide +kernel⟩
theorem cv_X6_has : cv_ yX6_has := ⟨w_987, w_988⟩
