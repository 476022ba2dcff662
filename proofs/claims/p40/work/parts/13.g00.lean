/-! the reference of the whole check as a ghost: its pure functions alone (out of wip/gen40/ghost.py) -/
def sklM_ : List (List Int) := [[117, 114, 110], [117, 114, 110, 33], [116, 105, 101, 32, 35, 46, 36, 61, 35], [117, 110, 116, 105, 101, 32, 35, 46, 36], [110, 97, 109, 101, 32, 64, 61, 35], [100, 114, 111, 112, 32, 64], [119, 101, 97, 107, 32, 35, 61, 35], [114, 111, 117, 110, 100], [115, 116, 101, 112, 32, 35], [114, 105, 116, 101], [117, 114, 110], [116, 105, 101, 32], [46], [61], [117, 110, 116, 105, 101, 32], [110, 97, 109, 101, 32], [100, 114, 111, 112, 32], [119, 101, 97, 107, 32], [114, 111, 117, 110, 100], [115, 116, 101, 112, 32], [114, 105, 116, 101]]
def snM_ (k : Int) : Int := ((sklM_.getD k.toNat []).length : Nat)
def scM_ (k i : Int) : Int := (sklM_.getD k.toNat []).getD i.toNat 0
def rsM_ {α : Type} (k i : Int) (f : Int → Option α) : Option α := if (0 ≤ k ∧ k < 21) ∧ 0 ≤ i ∧ i < snM_ k then f (scM_ k i) else none
section GH
def f_G0_coder_7d493 (μ : mu_T) (a0 : Int) : Option Int :=
  eq_ 1 0
      (some 1)
      (gd_ (0 ≤ a0 ∧ a0 < 21) (some 0))
def f_G0_length_8abf5 (μ : mu_T) (a0 : Int) : Option Int :=
  gd_ (0 ≤ a0 ∧ a0 < 21) (gd_ (0 ≤ a0 ∧ a0 < 21) (gd_ (0 ≤ a0 ∧ a0 < 21) (bd_ (f_G0_coder_7d493 μ a0) (fun v6 => some (sr_ (snM_ a0) v6)))))
def f_G0_isLatin1_aae02 (μ : mu_T) (a0 : Int) : Option Int :=
  eq_ 1 0
      (some 0)
      (gd_ (0 ≤ a0 ∧ a0 < 21) (eq_ 0 0
      (some 1)
      (some 0)))
def f_G0_checkIndex_df160 (μ : mu_T) (a0 : Int) (a1 : Int) : Option Unit :=
  bd_ (f_J3_checkIndex_8e157 μ a0 a1) (fun v5 => some ())
def f_G1_charAt_3b067 (μ : mu_T) (a0 : Int) (a1 : Int) : Option Int :=
  gd_ (0 ≤ a0 ∧ a0 < 21) (bd_ (f_G0_checkIndex_df160 μ a1 (snM_ a0)) (fun u3 => rsM_ a0 a1 (fun v8 => rc_ (i2c_ (an_ v8 255)))))
def f_G0_charAt_5068e (μ : mu_T) (a0 : Int) (a1 : Int) : Option Int :=
  gd_ (0 ≤ a0 ∧ a0 < 21) (bd_ (f_G0_isLatin1_aae02 μ a0) (fun v1 => eq_ v1 0
      (gd_ (0 ≤ a0 ∧ a0 < 21) (none))
      (gd_ (0 ≤ a0 ∧ a0 < 21) (bd_ (f_G1_charAt_3b067 μ a0 a1) (fun v12 => rc_ v12)))))
def f_X12_in (μ : mu_T) (a0 : Int) (a1 : Int) (a2 : Int) : Option Int :=
  lt_ a0 a1
      (some 0)
      (lt_ a2 a0
      (some 0)
      (some 1))
def f_X12_remembers_L2  : Nat → Int → mu_T → Option mu_T
  | 0, _, _ => none
  | fu2 + 1, x1_2, μ2 => lt_ x1_2 293
      (rd_ μ2 1 293 x1_2 (fun v19 => wr_ μ2 2 293 x1_2 v19 (fun μ20 => nm_ (x1_2 + 1) (fun n21 => (f_X12_remembers_L2 fu2) n21 μ20))))
      (some μ2)
def f_X12_remembers (μ : mu_T)  : Option mu_T :=
  f_X12_remembers_L2 20000 0 μ
def f_X12_changed_L55 (a1 : Int) : Nat → Int → mu_T → Option (Int × mu_T)
  | 0, _, _ => none
  | fu55 + 1, x2_55, μ55 => lt_ x2_55 293
      (nm_ (μ55 0 4) (fun v70 => rd_ μ55 2 293 x2_55 (fun v83 => wr_ μ55 4 2344 ((293 * (v70 - 1)) + x2_55) v83 (fun μ84 => nm_ (x2_55 + 1) (fun n85 => (f_X12_changed_L55 a1 fu55) n85 μ84)))))
      (some (a1, μ55))
def f_X12_changed_L11 (J40 : mu_T → Option (Int × mu_T)) : Nat → Int → mu_T → Option (Int × mu_T)
  | 0, _, _ => none
  | fu11 + 1, x2_11, μ11 => lt_ x2_11 2051
      (rd_ μ11 4 2344 (x2_11 + 293) (fun v32 => wr_ μ11 4 2344 x2_11 v32 (fun μ33 => nm_ (x2_11 + 1) (fun n34 => (f_X12_changed_L11 J40 fu11) n34 μ33))))
      (J40 μ11)
def f_X12_changed (μ : mu_T) (a1 : Int) : Option (Int × mu_T) :=
  nm_ (μ 0 4) (fun v1 => jn_ (φ := mu_T → Option (Int × mu_T)) (fun μ53 => f_X12_changed_L55 a1 20000 0 μ53)
      (fun J53 => eq_ v1 8
      (jn_ (φ := mu_T → Option (Int × mu_T)) (fun μ40 => J53 μ40)
      (fun J40 => f_X12_changed_L11 J40 20000 0 μ))
      (nm_ (μ 0 4) (fun v45 => wf_ μ 0 4 (v45 + 1) (fun μ50 => J53 μ50)))))
def f_X12_refused (μ : mu_T) (a1 : Int) (a2 : Int) : Option (Int × mu_T) :=
  wf_ μ 0 14 a2 (fun μ2 => some (a1, μ2))
def f_X12_done (μ : mu_T) (a1 : Int) : Option (Int × mu_T) :=
  wf_ μ 0 15 a1 (fun μ2 => some (0, μ2))
def f_X12_ends (μ : mu_T) (a1 : Int) : Option (Int × mu_T) :=
  eq_ a1 0
      (nm_ (μ 0 15) (fun v6 => bp_ (f_X12_changed μ v6) (fun v9 μ9 => some (v9, μ9))))
      (lt_ a1 0
      (some (a1, μ))
      (wf_ μ 0 12 a1 (fun μ21 => nm_ (μ21 0 14) (fun v26 => wf_ μ21 0 13 v26 (fun μ29 => some ((-14), μ29))))))
def f_X12_isUrn (μ : mu_T) (a1 : Int) : Option Int :=
  bd_ (f_X12_in μ a1 0 23) (fun v4 => eq_ v4 0
      (some 0)
      (rd_ μ 1 293 (17 + a1) (fun v18 => eq_ v18 1
      (some 1)
      (some 0))))
def f_X12_at (μ : mu_T) (a0 : Int) (a1 : Int) : Option Int :=
  some ((137 + (4 * a0)) + a1)
def f_X12_empties_L53 (a1 : Int) : Nat → Int → mu_T → Option mu_T
  | 0, _, _ => none
  | fu53 + 1, x2_53, μ53 => lt_ x2_53 4
      (bd_ (f_X12_at μ53 a1 x2_53) (fun v64 => wr_ μ53 1 293 v64 (-15) (fun μ69 => nm_ (x2_53 + 1) (fun n70 => (f_X12_empties_L53 a1 fu53) n70 μ69))))
      (some μ53)
def f_X12_empties (μ : mu_T) (a1 : Int) : Option mu_T :=
  wr_ μ 1 293 (17 + a1) 0 (fun μ9 => wr_ μ9 1 293 (41 + a1) 0 (fun μ19 => wr_ μ19 1 293 (65 + a1) 0 (fun μ29 => wr_ μ29 1 293 (89 + a1) 0 (fun μ39 => wr_ μ39 1 293 (113 + a1) (-15) (fun μ50 => f_X12_empties_L53 a1 20000 0 μ50)))))
def f_X12_isDoomed (μ : mu_T) (a1 : Int) : Option Int :=
  rd_ μ 1 293 0 (fun v5 => eq_ v5 2
      (rd_ μ 1 293 (41 + a1) (fun v18 => eq_ v18 0
      (rd_ μ 1 293 1 (fun v28 => lt_ a1 v28
      (some 0)
      (some 1)))
      (some 0)))
      (some 0))
def f_X12_greys (μ : mu_T) (a1 : Int) : Option mu_T :=
  wr_ μ 1 293 (41 + a1) 1 (fun μ9 => rd_ μ9 1 293 8 (fun v23 => wr_ μ9 1 293 (233 + v23) a1 (fun μ26 => rd_ μ26 1 293 8 (fun v34 => wr_ μ26 1 293 8 (v34 + 1) (fun μ37 => some μ37)))))
def f_X12_greysIfWhite (μ : mu_T) (a1 : Int) : Option mu_T :=
  eq_ a1 (-15)
      (some μ)
      (rd_ μ 1 293 (41 + a1) (fun v14 => eq_ v14 0
      (bd_ (f_X12_greys μ a1) (fun μ20 => some μ20))
      (some μ)))
def f_X12_beginsRound_L36 (J67 : mu_T → Option (Int × mu_T)) : Nat → Int → mu_T → Option (Int × mu_T)
  | 0, _, _ => none
  | fu36 + 1, x1_36, μ36 => rd_ μ36 1 293 9 (fun v43 => lt_ x1_36 v43
      (rd_ μ36 1 293 (257 + x1_36) (fun v57 => bd_ (f_X12_greysIfWhite μ36 v57) (fun μ58 => nm_ (x1_36 + 1) (fun n61 => (f_X12_beginsRound_L36 J67 fu36) n61 μ58))))
      (J67 μ36))
def f_X12_beginsRound_L9 (J34 : mu_T → Option (Int × mu_T)) : Nat → Int → mu_T → Option (Int × mu_T)
  | 0, _, _ => none
  | fu9 + 1, x1_9, μ9 => lt_ x1_9 6
      (rd_ μ9 1 293 (11 + x1_9) (fun v24 => bd_ (f_X12_greysIfWhite μ9 v24) (fun μ25 => nm_ (x1_9 + 1) (fun n28 => (f_X12_beginsRound_L9 J34 fu9) n28 μ25))))
      (J34 μ9)
def f_X12_beginsRound (μ : mu_T)  : Option (Int × mu_T) :=
  wr_ μ 1 293 0 1 (fun μ6 => jn_ (φ := mu_T → Option (Int × mu_T)) (fun μ34 => jn_ (φ := mu_T → Option (Int × mu_T)) (fun μ67 => rd_ μ67 1 293 8 (fun v73 => some (v73, μ67)))
      (fun J67 => f_X12_beginsRound_L36 J67 20000 0 μ34))
      (fun J34 => f_X12_beginsRound_L9 J34 20000 0 μ6))
def f_X12_blackens_L90 (v7 : Int) : Nat → Int → mu_T → Option mu_T
  | 0, _, _ => none
  | fu90 + 1, x2_90, μ90 => lt_ x2_90 4
      (bd_ (f_X12_at μ90 v7 x2_90) (fun v102 => rd_ μ90 1 293 v102 (fun v105 => bd_ (f_X12_greysIfWhite μ90 v105) (fun μ106 => nm_ (x2_90 + 1) (fun n109 => (f_X12_blackens_L90 v7 fu90) n109 μ106)))))
      (some μ90)
def f_X12_blackens_L22 (J61 : mu_T → Option mu_T) : Nat → Int → mu_T → Option mu_T
  | 0, _, _ => none
  | fu22 + 1, x2_22, μ22 => rd_ μ22 1 293 8 (fun v29 => lt_ x2_22 v29
      (rd_ μ22 1 293 ((233 + x2_22) + 1) (fun v53 => wr_ μ22 1 293 (233 + x2_22) v53 (fun μ54 => nm_ (x2_22 + 1) (fun n55 => (f_X12_blackens_L22 J61 fu22) n55 μ54))))
      (J61 μ22))
def f_X12_blackens (μ : mu_T)  : Option mu_T :=
  rd_ μ 1 293 233 (fun v7 => rd_ μ 1 293 8 (fun v16 => wr_ μ 1 293 8 (v16 - 1) (fun μ19 => jn_ (φ := mu_T → Option mu_T) (fun μ61 => rd_ μ61 1 293 8 (fun v74 => wr_ μ61 1 293 (233 + v74) 0 (fun μ77 => wr_ μ77 1 293 (41 + v7) 2 (fun μ87 => f_X12_blackens_L90 v7 20000 0 μ87))))
      (fun J61 => f_X12_blackens_L22 J61 20000 0 μ19))))
def f_X12_becomeDue_L4  : Nat → Int → Int → mu_T → Option (Int × mu_T)
  | 0, _, _, _ => none
  | fu4 + 1, x1_4, x2_4, μ4 => lt_ x2_4 24
      (rd_ μ4 1 293 (17 + x2_4) (fun v18 => jn_ (φ := Int → mu_T → Option (Int × mu_T)) (fun x1_95 μ95 => nm_ (x2_4 + 1) (fun n95 => (f_X12_becomeDue_L4 fu4) x1_95 n95 μ95))
      (fun J95 => eq_ v18 0
      (J95 x1_4 μ4)
      (rd_ μ4 1 293 (41 + x2_4) (fun v30 => eq_ v30 0
      (rd_ μ4 1 293 (65 + x2_4) (fun v42 => eq_ v42 1
      (wr_ μ4 1 293 (65 + x2_4) 2 (fun μ59 => rd_ μ59 1 293 9 (fun v73 => wr_ μ59 1 293 (257 + v73) x2_4 (fun μ76 => rd_ μ76 1 293 9 (fun v84 => wr_ μ76 1 293 9 (v84 + 1) (fun μ87 => bd_ (f_X12_greys μ87 x2_4) (fun μ90 => J95 1 μ90)))))))
      (J95 x1_4 μ4)))
      (J95 x1_4 μ4))))))
      (rz_ x1_4 μ4)
def f_X12_becomeDue (μ : mu_T)  : Option (Int × mu_T) :=
  f_X12_becomeDue_L4 20000 0 0 μ
def f_X12_cutsWeak_L2 (J67 : mu_T → Option mu_T) : Nat → Int → mu_T → Option mu_T
  | 0, _, _ => none
  | fu2 + 1, x1_2, μ2 => lt_ x1_2 24
      (rd_ μ2 1 293 (113 + x1_2) (fun v16 => jn_ (φ := mu_T → Option mu_T) (fun μ61 => nm_ (x1_2 + 1) (fun n61 => (f_X12_cutsWeak_L2 J67 fu2) n61 μ61))
      (fun J61 => eq_ v16 (-15)
      (J61 μ2)
      (rd_ μ2 1 293 (41 + v16) (fun v32 => eq_ v32 0
      (wr_ μ2 1 293 (113 + x1_2) (-15) (fun μ49 => rd_ μ49 1 293 6 (fun v57 => wr_ μ49 1 293 6 (v57 + 1) (fun μ60 => J61 μ60))))
      (J61 μ2))))))
      (J67 μ2)
def f_X12_cutsWeak (μ : mu_T)  : Option mu_T :=
  jn_ (φ := mu_T → Option mu_T) (fun μ67 => wr_ μ67 1 293 0 2 (fun μ73 => wr_ μ73 1 293 1 0 (fun μ80 => some μ80)))
      (fun J67 => f_X12_cutsWeak_L2 J67 20000 0 μ)
def f_X12_frees_L85 (J117 : mu_T → Option mu_T) : Nat → Int → mu_T → Option mu_T
  | 0, _, _ => none
  | fu85 + 1, x2_85, μ85 => lt_ 0 x2_85
      (rd_ μ85 1 293 ((281 + x2_85) - 1) (fun v109 => wr_ μ85 1 293 (281 + x2_85) v109 (fun μ110 => nm_ (x2_85 + (-1)) (fun n111 => (f_X12_frees_L85 J117 fu85) n111 μ110))))
      (J117 μ85)
def f_X12_frees_L39 (J76 : mu_T → Option mu_T) (a1 : Int) (x2_7 : Int) : Nat → Int → mu_T → Option mu_T
  | 0, _, _ => none
  | fu39 + 1, x3_39, μ39 => lt_ x3_39 4
      (bd_ (f_X12_at μ39 x2_7 x3_39) (fun v50 => rd_ μ39 1 293 v50 (fun v53 => jn_ (φ := mu_T → Option mu_T) (fun μ70 => nm_ (x3_39 + 1) (fun n70 => (f_X12_frees_L39 J76 a1 x2_7 fu39) n70 μ70))
      (fun J70 => eq_ v53 a1
      (bd_ (f_X12_at μ39 x2_7 x3_39) (fun v64 => wr_ μ39 1 293 v64 (-15) (fun μ69 => J70 μ69)))
      (J70 μ39)))))
      (J76 μ39)
def f_X12_frees_L7 (J82 : mu_T → Option mu_T) (a1 : Int) : Nat → Int → mu_T → Option mu_T
  | 0, _, _ => none
  | fu7 + 1, x2_7, μ7 => lt_ x2_7 24
      (rd_ μ7 1 293 (113 + x2_7) (fun v21 => jn_ (φ := mu_T → Option mu_T) (fun μ37 => jn_ (φ := mu_T → Option mu_T) (fun μ76 => nm_ (x2_7 + 1) (fun n76 => (f_X12_frees_L7 J82 a1 fu7) n76 μ76))
      (fun J76 => f_X12_frees_L39 J76 a1 x2_7 20000 0 μ37))
      (fun J37 => eq_ v21 a1
      (wr_ μ7 1 293 (113 + x2_7) (-15) (fun μ36 => J37 μ36))
      (J37 μ7))))
      (J82 μ7)
def f_X12_frees (μ : mu_T) (a1 : Int) : Option mu_T :=
  bd_ (f_X12_empties μ a1) (fun μ2 => jn_ (φ := mu_T → Option mu_T) (fun μ82 => jn_ (φ := mu_T → Option mu_T) (fun μ117 => wr_ μ117 1 293 281 a1 (fun μ125 => rd_ μ125 1 293 10 (fun v133 => rd_ μ125 1 293 10 (fun v140 => jn_ (φ := Int → Option mu_T) (fun s0_151 => wr_ μ125 1 293 10 (v133 + s0_151) (fun μ152 => rd_ μ152 1 293 4 (fun v159 => wr_ μ152 1 293 4 (v159 + 1) (fun μ162 => some μ162))))
      (fun J151 => lt_ v140 12
      (J151 1)
      (J151 0))))))
      (fun J117 => f_X12_frees_L85 J117 20000 11 μ82))
      (fun J82 => f_X12_frees_L7 J82 a1 20000 0 μ2))
def f_X12_sweeps (μ : mu_T)  : Option mu_T :=
  rd_ μ 1 293 1 (fun v5 => rd_ μ 1 293 (17 + v5) (fun v15 => jn_ (φ := mu_T → Option mu_T) (fun μ50 => rd_ μ50 1 293 1 (fun v56 => wr_ μ50 1 293 1 (v56 + 1) (fun μ59 => rd_ μ59 1 293 1 (fun v65 => lt_ v65 24
      (some μ59)
      (wr_ μ59 1 293 0 0 (fun μ78 => wr_ μ78 1 293 1 0 (fun μ85 => rd_ μ85 1 293 2 (fun v92 => wr_ μ85 1 293 2 (v92 + 1) (fun μ95 => some μ95)))))))))
      (fun J50 => jn_ (φ := Unit → Option mu_T) (fun _ => wr_ μ 1 293 (41 + v5) 0 (fun μ49 => J50 μ49))
      (fun J40 => eq_ v15 1
      (rd_ μ 1 293 (41 + v5) (fun v28 => eq_ v28 0
      (bd_ (f_X12_frees μ v5) (fun μ34 => J50 μ34))
      (J40 ())))
      (J40 ())))))
def f_X12_part (μ : mu_T)  : Option mu_T :=
  rd_ μ 1 293 7 (fun v7 => wr_ μ 1 293 7 (v7 + 1) (fun μ10 => rd_ μ10 1 293 0 (fun v16 => eq_ v16 2
      (bd_ (f_X12_sweeps μ10) (fun μ22 => some μ22))
      (rd_ μ10 1 293 8 (fun v34 => lt_ 0 v34
      (bd_ (f_X12_blackens μ10) (fun μ39 => some μ39))
      (bp_ (f_X12_becomeDue μ10) (fun v46 μ46 => eq_ v46 0
      (bd_ (f_X12_cutsWeak μ46) (fun μ53 => some μ53))
      (some μ46))))))))
def f_X12_partsOn_L2 (a1 : Int) : Nat → Int → mu_T → Option (Int × mu_T)
  | 0, _, _ => none
  | fu2 + 1, x2_2, μ2 => lt_ x2_2 a1
      (rd_ μ2 1 293 0 (fun v12 => lt_ 0 v12
      (bd_ (f_X12_part μ2) (fun μ17 => nm_ (x2_2 + 1) (fun n20 => (f_X12_partsOn_L2 a1 fu2) n20 μ17)))
      (some (x2_2, μ2))))
      (some (x2_2, μ2))
def f_X12_partsOn (μ : mu_T) (a1 : Int) : Option (Int × mu_T) :=
  f_X12_partsOn_L2 a1 20000 0 μ
def f_X12_makes_L2 (J27 : Int → Option (Int × mu_T)) (μ : mu_T) : Nat → Int → Option (Int × mu_T)
  | 0, _ => none
  | fu2 + 1, x2_2 => lt_ x2_2 24
      (rd_ μ 1 293 (17 + x2_2) (fun v16 => eq_ v16 1
      (nm_ (x2_2 + 1) (fun n21 => (f_X12_makes_L2 J27 μ fu2) n21))
      (J27 x2_2)))
      (J27 x2_2)
def f_X12_makes (μ : mu_T) (a1 : Int) : Option (Int × mu_T) :=
  jn_ (φ := Int → Option (Int × mu_T)) (fun x2_27 => eq_ x2_27 24
      (bp_ (f_X12_refused μ 1 24) (fun v37 μ37 => some (v37, μ37)))
      (wr_ μ 1 293 (17 + x2_27) 1 (fun μ50 => jn_ (φ := Int → Option (Int × mu_T)) (fun s0_68 => wr_ μ50 1 293 (65 + x2_27) s0_68 (fun μ68 => rd_ μ68 1 293 2 (fun v82 => wr_ μ68 1 293 (89 + x2_27) v82 (fun μ83 => rd_ μ83 1 293 0 (fun v97 => jn_ (φ := Int → Option (Int × mu_T)) (fun s0_127 => wr_ μ83 1 293 (41 + x2_27) s0_127 (fun μ127 => rd_ μ127 1 293 3 (fun v134 => wr_ μ127 1 293 3 (v134 + 1) (fun μ137 => bp_ (f_X12_done μ137 x2_27) (fun v140 μ140 => some (v140, μ140))))))
      (fun J127 => jn_ (φ := Unit → Option (Int × mu_T)) (fun _ => J127 2)
      (fun J122 => eq_ v97 1
      (J122 ())
      (rd_ μ83 1 293 0 (fun v107 => jn_ (φ := Unit → Option (Int × mu_T)) (fun _ => J127 0)
      (fun J126 => eq_ v107 2
      (rd_ μ83 1 293 1 (fun v118 => lt_ x2_27 v118
      (J126 ())
      (J122 ())))
      (J126 ())))))))))))
      (fun J68 => eq_ a1 0
      (J68 0)
      (J68 1)))))
      (fun J27 => f_X12_makes_L2 J27 μ 20000 0)
def f_X12_ties (μ : mu_T) (a1 : Int) (a2 : Int) (a3 : Int) : Option (Int × mu_T) :=
  bd_ (f_X12_isUrn μ a1) (fun v2 => eq_ v2 0
      (some ((-11), μ))
      (bd_ (f_X12_in μ a2 0 3) (fun v11 => eq_ v11 0
      (some ((-11), μ))
      (bd_ (f_X12_isUrn μ a3) (fun v19 => eq_ v19 0
      (some ((-11), μ))
      (bd_ (f_X12_isDoomed μ a1) (fun v30 => eq_ v30 0
      (bd_ (f_X12_isDoomed μ a3) (fun v46 => eq_ v46 0
      (bd_ (f_X12_at μ a1 a2) (fun v66 => rd_ μ 1 293 v66 (fun v69 => bd_ (f_X12_at μ a1 a2) (fun v78 => wr_ μ 1 293 v78 a3 (fun μ82 => rd_ μ82 1 293 0 (fun v88 => eq_ v88 1
      (rd_ μ82 1 293 (41 + a1) (fun v101 => eq_ v101 2
      (bd_ (f_X12_greysIfWhite μ82 a3) (fun μ108 => bp_ (f_X12_done μ108 v69) (fun v114 μ114 => some (v114, μ114))))
      (bp_ (f_X12_done μ82 v69) (fun v114 μ114 => some (v114, μ114)))))
      (bp_ (f_X12_done μ82 v69) (fun v114 μ114 => some (v114, μ114)))))))))
      (bp_ (f_X12_refused μ 7 a3) (fun v56 μ56 => some (v56, μ56)))))
      (bp_ (f_X12_refused μ 7 a1) (fun v40 μ40 => some (v40, μ40))))))))))
def f_X12_unties (μ : mu_T) (a1 : Int) (a2 : Int) : Option (Int × mu_T) :=
  bd_ (f_X12_isUrn μ a1) (fun v2 => eq_ v2 0
      (some ((-11), μ))
      (bd_ (f_X12_in μ a2 0 3) (fun v11 => eq_ v11 0
      (some ((-11), μ))
      (bd_ (f_X12_at μ a1 a2) (fun v26 => rd_ μ 1 293 v26 (fun v29 => eq_ v29 (-15)
      (bp_ (f_X12_refused μ 2 a2) (fun v40 μ40 => some (v40, μ40)))
      (bd_ (f_X12_at μ a1 a2) (fun v50 => wr_ μ 1 293 v50 (-15) (fun μ55 => bp_ (f_X12_done μ55 v29) (fun v58 μ58 => some (v58, μ58)))))))))))
def f_X12_weakens (μ : mu_T) (a1 : Int) (a2 : Int) : Option (Int × mu_T) :=
  bd_ (f_X12_isUrn μ a1) (fun v2 => eq_ v2 0
      (some ((-11), μ))
      (bd_ (f_X12_isUrn μ a2) (fun v10 => eq_ v10 0
      (some ((-11), μ))
      (bd_ (f_X12_isDoomed μ a1) (fun v21 => eq_ v21 0
      (bd_ (f_X12_isDoomed μ a2) (fun v37 => eq_ v37 0
      (rd_ μ 1 293 (113 + a1) (fun v59 => wr_ μ 1 293 (113 + a1) a2 (fun μ70 => bp_ (f_X12_done μ70 v59) (fun v73 μ73 => some (v73, μ73)))))
      (bp_ (f_X12_refused μ 7 a2) (fun v47 μ47 => some (v47, μ47)))))
      (bp_ (f_X12_refused μ 7 a1) (fun v31 μ31 => some (v31, μ31))))))))
def f_X12_names (μ : mu_T) (a1 : Int) (a2 : Int) : Option (Int × mu_T) :=
  bd_ (f_X12_in μ a1 0 5) (fun v3 => eq_ v3 0
      (some ((-11), μ))
      (bd_ (f_X12_isUrn μ a2) (fun v11 => eq_ v11 0
      (some ((-11), μ))
      (bd_ (f_X12_isDoomed μ a2) (fun v22 => eq_ v22 0
      (rd_ μ 1 293 (11 + a1) (fun v44 => wr_ μ 1 293 (11 + a1) a2 (fun μ55 => rd_ μ55 1 293 0 (fun v61 => eq_ v61 1
      (bd_ (f_X12_greysIfWhite μ55 a2) (fun μ68 => bp_ (f_X12_done μ68 v44) (fun v73 μ73 => some (v73, μ73))))
      (bp_ (f_X12_done μ55 v44) (fun v73 μ73 => some (v73, μ73)))))))
      (bp_ (f_X12_refused μ 7 a2) (fun v32 μ32 => some (v32, μ32))))))))
def f_X12_drops (μ : mu_T) (a1 : Int) : Option (Int × mu_T) :=
  bd_ (f_X12_in μ a1 0 5) (fun v3 => eq_ v3 0
      (some ((-11), μ))
      (rd_ μ 1 293 (11 + a1) (fun v20 => eq_ v20 (-15)
      (bp_ (f_X12_refused μ 3 a1) (fun v31 μ31 => some (v31, μ31)))
      (wr_ μ 1 293 (11 + a1) (-15) (fun μ45 => bp_ (f_X12_done μ45 v20) (fun v48 μ48 => some (v48, μ48)))))))
def f_X12_stepsOn (μ : mu_T) (a1 : Int) : Option (Int × mu_T) :=
  bd_ (f_X12_in μ a1 1 99) (fun v4 => eq_ v4 0
      (some ((-12), μ))
      (rd_ μ 1 293 0 (fun v18 => eq_ v18 0
      (rd_ μ 1 293 2 (fun v29 => bp_ (f_X12_refused μ 5 v29) (fun v30 μ30 => some (v30, μ30))))
      (bp_ (f_X12_partsOn μ a1) (fun v39 μ39 => bp_ (f_X12_done μ39 v39) (fun v42 μ42 => some (v42, μ42)))))))
def f_X12_wholeRound (μ : mu_T)  : Option (Int × mu_T) :=
  rd_ μ 1 293 4 (fun v5 => rd_ μ 1 293 0 (fun v12 => jn_ (φ := Int → mu_T → Option (Int × mu_T)) (fun s0_24 μ24 => bp_ (f_X12_partsOn μ24 10000) (fun v29 μ29 => rd_ μ29 1 293 4 (fun v39 => bp_ (f_X12_done μ29 (v39 - v5)) (fun v42 μ42 => some (v42, μ42)))))
      (fun J24 => eq_ v12 0
      (bp_ (f_X12_beginsRound μ) (fun v17 μ17 => J24 v17 μ17))
      (J24 0 μ))))
def f_X12_doesRite_L45 (J84 : mu_T → Option (Int × mu_T)) : Nat → Int → mu_T → Option (Int × mu_T)
  | 0, _, _ => none
  | fu45 + 1, x2_45, μ45 => rd_ μ45 1 293 9 (fun v52 => lt_ x2_45 v52
      (rd_ μ45 1 293 ((257 + x2_45) + 1) (fun v76 => wr_ μ45 1 293 (257 + x2_45) v76 (fun μ77 => nm_ (x2_45 + 1) (fun n78 => (f_X12_doesRite_L45 J84 fu45) n78 μ77))))
      (J84 μ45))
def f_X12_doesRite (μ : mu_T)  : Option (Int × mu_T) :=
  rd_ μ 1 293 9 (fun v6 => eq_ v6 0
      (rd_ μ 1 293 5 (fun v18 => bp_ (f_X12_refused μ 6 v18) (fun v19 μ19 => some (v19, μ19))))
      (rd_ μ 1 293 257 (fun v30 => rd_ μ 1 293 9 (fun v39 => wr_ μ 1 293 9 (v39 - 1) (fun μ42 => jn_ (φ := mu_T → Option (Int × mu_T)) (fun μ84 => rd_ μ84 1 293 9 (fun v97 => wr_ μ84 1 293 (257 + v97) 0 (fun μ100 => wr_ μ100 1 293 (65 + v30) 0 (fun μ110 => rd_ μ110 1 293 5 (fun v117 => wr_ μ110 1 293 5 (v117 + 1) (fun μ120 => bp_ (f_X12_done μ120 v30) (fun v123 μ123 => some (v123, μ123))))))))
      (fun J84 => f_X12_doesRite_L45 J84 20000 0 μ42))))))
def f_X12_urn (μ : mu_T) (a1 : Int) : Option (Int × mu_T) :=
  bd_ (f_X12_remembers μ) (fun μ1 => bp_ (f_X12_makes μ1 a1) (fun v7 μ7 => bp_ (f_X12_ends μ7 v7) (fun v10 μ10 => some (v10, μ10))))
def f_X12_tie (μ : mu_T) (a1 : Int) (a2 : Int) (a3 : Int) : Option (Int × mu_T) :=
  bd_ (f_X12_remembers μ) (fun μ1 => bp_ (f_X12_ties μ1 a1 a2 a3) (fun v9 μ9 => bp_ (f_X12_ends μ9 v9) (fun v12 μ12 => some (v12, μ12))))
def f_X12_untie (μ : mu_T) (a1 : Int) (a2 : Int) : Option (Int × mu_T) :=
  bd_ (f_X12_remembers μ) (fun μ1 => bp_ (f_X12_unties μ1 a1 a2) (fun v8 μ8 => bp_ (f_X12_ends μ8 v8) (fun v11 μ11 => some (v11, μ11))))
def f_X12_weak (μ : mu_T) (a1 : Int) (a2 : Int) : Option (Int × mu_T) :=
  bd_ (f_X12_remembers μ) (fun μ1 => bp_ (f_X12_weakens μ1 a1 a2) (fun v8 μ8 => bp_ (f_X12_ends μ8 v8) (fun v11 μ11 => some (v11, μ11))))
def f_X12_unweak (μ : mu_T) (a1 : Int) : Option (Int × mu_T) :=
  bd_ (f_X12_remembers μ) (fun μ1 => bd_ (f_X12_isUrn μ1 a1) (fun v6 => eq_ v6 0
      (some ((-11), μ1))
      (rd_ μ1 1 293 (113 + a1) (fun v23 => wr_ μ1 1 293 (113 + a1) (-15) (fun μ35 => eq_ v23 (-15)
      (bp_ (f_X12_refused μ35 2 4) (fun v46 μ46 => bp_ (f_X12_ends μ46 v46) (fun v57 μ57 => some (v57, μ57))))
      (bp_ (f_X12_done μ35 v23) (fun v54 μ54 => bp_ (f_X12_ends μ54 v54) (fun v57 μ57 => some (v57, μ57)))))))))
def f_X12_name (μ : mu_T) (a1 : Int) (a2 : Int) : Option (Int × mu_T) :=
  bd_ (f_X12_remembers μ) (fun μ1 => bp_ (f_X12_names μ1 a1 a2) (fun v8 μ8 => bp_ (f_X12_ends μ8 v8) (fun v11 μ11 => some (v11, μ11))))
def f_X12_drop (μ : mu_T) (a1 : Int) : Option (Int × mu_T) :=
  bd_ (f_X12_remembers μ) (fun μ1 => bp_ (f_X12_drops μ1 a1) (fun v7 μ7 => bp_ (f_X12_ends μ7 v7) (fun v10 μ10 => some (v10, μ10))))
def f_X12_holds_L4 (a1 : Int) (μ : mu_T) : Nat → Int → Int → Option Int
  | 0, _, _ => none
  | fu4 + 1, x2_4, x3_4 => lt_ x3_4 4
      (bd_ (f_X12_at μ a1 x3_4) (fun v16 => rd_ μ 1 293 v16 (fun v19 => jn_ (φ := Int → Option Int) (fun s0_30 => nm_ ((x2_4 + s0_30)) (fun n31 => nm_ (x3_4 + 1) (fun n32 => (f_X12_holds_L4 a1 μ fu4) n31 n32)))
      (fun J30 => eq_ v19 (-15)
      (J30 0)
      (J30 1)))))
      (some x2_4)
def f_X12_holds (μ : mu_T) (a1 : Int) : Option Int :=
  f_X12_holds_L4 a1 μ 20000 0 0
def f_X12_held_L40 (a1 : Int) (μ : mu_T) : Nat → Int → Int → Option Int
  | 0, _, _ => none
  | fu40 + 1, x2_40, x3_40 => lt_ x3_40 6
      (rd_ μ 1 293 (11 + x3_40) (fun v55 => jn_ (φ := Int → Option Int) (fun s0_65 => nm_ ((x2_40 + s0_65)) (fun n66 => nm_ (x3_40 + 1) (fun n67 => (f_X12_held_L40 a1 μ fu40) n66 n67)))
      (fun J65 => eq_ v55 a1
      (J65 1)
      (J65 0))))
      (some x2_40)
def f_X12_held_L4 (J38 : Int → Option Int) (a1 : Int) (μ : mu_T) : Nat → Int → Int → Option Int
  | 0, _, _ => none
  | fu4 + 1, x2_4, x3_4 => lt_ x3_4 96
      (rd_ μ 1 293 (137 + x3_4) (fun v20 => jn_ (φ := Int → Option Int) (fun s0_30 => nm_ ((x2_4 + s0_30)) (fun n31 => nm_ (x3_4 + 1) (fun n32 => (f_X12_held_L4 J38 a1 μ fu4) n31 n32)))
      (fun J30 => eq_ v20 a1
      (J30 1)
      (J30 0))))
      (J38 x2_4)
def f_X12_held (μ : mu_T) (a1 : Int) : Option Int :=
  jn_ (φ := Int → Option Int) (fun x2_38 => f_X12_held_L40 a1 μ 20000 x2_38 0)
      (fun J38 => f_X12_held_L4 J38 a1 μ 20000 0 0)
def f_X12_urnOf (μ : mu_T) (a1 : Int) (a2 : Int) : Option Int :=
  bd_ (f_X12_isUrn μ a1) (fun v2 => eq_ v2 0
      (some (-11))
      (ts_ a2 [0, 1, 2, 3, 4, 5] [rd_ μ 1 293 (41 + a1) (fun v60 => some v60),
      rd_ μ 1 293 (65 + a1) (fun v70 => some v70),
      bd_ (f_X12_holds μ a1) (fun v74 => some v74),
      bd_ (f_X12_held μ a1) (fun v80 => some v80),
      rd_ μ 1 293 (113 + a1) (fun v92 => some v92),
      rd_ μ 1 293 (89 + a1) (fun v102 => some v102)]
      (some (-12))))
def f_X12_threadOf (μ : mu_T) (a1 : Int) (a2 : Int) : Option Int :=
  bd_ (f_X12_isUrn μ a1) (fun v2 => eq_ v2 0
      (some (-11))
      (bd_ (f_X12_in μ a2 0 3) (fun v11 => eq_ v11 0
      (some (-11))
      (bd_ (f_X12_at μ a1 a2) (fun v23 => rd_ μ 1 293 v23 (fun v26 => some v26))))))
def f_X12_named (μ : mu_T) (a1 : Int) : Option Int :=
  bd_ (f_X12_in μ a1 0 5) (fun v3 => eq_ v3 0
      (some (-11))
      (rd_ μ 1 293 (11 + a1) (fun v17 => some v17)))
def f_X12_begin (μ : mu_T)  : Option (Int × mu_T) :=
  bd_ (f_X12_remembers μ) (fun μ1 => rd_ μ1 1 293 0 (fun v10 => lt_ 0 v10
      (rd_ μ1 1 293 0 (fun v21 => bp_ (f_X12_refused μ1 4 v21) (fun v22 μ22 => bp_ (f_X12_ends μ22 v22) (fun v36 μ36 => some (v36, μ36)))))
      (bp_ (f_X12_beginsRound μ1) (fun v30 μ30 => bp_ (f_X12_done μ30 v30) (fun v33 μ33 => bp_ (f_X12_ends μ33 v33) (fun v36 μ36 => some (v36, μ36)))))))
def f_X12_step (μ : mu_T) (a1 : Int) : Option (Int × mu_T) :=
  bd_ (f_X12_remembers μ) (fun μ1 => bp_ (f_X12_stepsOn μ1 a1) (fun v7 μ7 => bp_ (f_X12_ends μ7 v7) (fun v10 μ10 => some (v10, μ10))))
def f_X12_round (μ : mu_T)  : Option (Int × mu_T) :=
  bd_ (f_X12_remembers μ) (fun μ1 => bp_ (f_X12_wholeRound μ1) (fun v6 μ6 => bp_ (f_X12_ends μ6 v6) (fun v9 μ9 => some (v9, μ9))))
def f_X12_rite (μ : mu_T)  : Option (Int × mu_T) :=
  bd_ (f_X12_remembers μ) (fun μ1 => bp_ (f_X12_doesRite μ1) (fun v6 μ6 => bp_ (f_X12_ends μ6 v6) (fun v9 μ9 => some (v9, μ9))))
def f_X12_due (μ : mu_T) (a1 : Int) : Option Int :=
  rd_ μ 1 293 9 (fun v8 => bd_ (f_X12_in μ a1 0 (v8 - 1)) (fun v11 => eq_ v11 0
      (some (-11))
      (rd_ μ 1 293 (257 + a1) (fun v26 => some v26))))
def f_X12_grey (μ : mu_T) (a1 : Int) : Option Int :=
  rd_ μ 1 293 8 (fun v8 => bd_ (f_X12_in μ a1 0 (v8 - 1)) (fun v11 => eq_ v11 0
      (some (-11))
      (rd_ μ 1 293 (233 + a1) (fun v26 => some v26))))
def f_X12_freed (μ : mu_T) (a1 : Int) : Option Int :=
  rd_ μ 1 293 10 (fun v8 => bd_ (f_X12_in μ a1 0 (v8 - 1)) (fun v11 => eq_ v11 0
      (some (-11))
      (rd_ μ 1 293 (281 + a1) (fun v26 => some v26))))
def f_X12_nears (μ : mu_T) (a1 : Int) (a2 : Int) : Option mu_T :=
  eq_ a1 (-15)
      (some μ)
      (rd_ μ 8 24 a1 (fun v12 => lt_ a2 v12
      (wr_ μ 8 24 a1 a2 (fun μ22 => some μ22))
      (some μ)))
def f_X12_measures_L147 (J196 : mu_T → Option mu_T) (x4_137 : Int) : Nat → Int → mu_T → Option mu_T
  | 0, _, _ => none
  | fu147 + 1, x5_147, μ147 => lt_ x5_147 4
      (rd_ μ147 8 24 x4_137 (fun v159 => jn_ (φ := mu_T → Option mu_T) (fun μ190 => nm_ (x5_147 + 1) (fun n190 => (f_X12_measures_L147 J196 x4_137 fu147) n190 μ190))
      (fun J190 => lt_ v159 99
      (bd_ (f_X12_at μ147 x4_137 x5_147) (fun v174 => rd_ μ147 1 293 v174 (fun v177 => rd_ μ147 8 24 x4_137 (fun v184 => bd_ (f_X12_nears μ147 v177 (v184 + 1)) (fun μ187 => J190 μ187)))))
      (J190 μ147))))
      (J196 μ147)
def f_X12_measures_L137 (J202 : mu_T → Option mu_T) : Nat → Int → mu_T → Option mu_T
  | 0, _, _ => none
  | fu137 + 1, x4_137, μ137 => lt_ x4_137 24
      (jn_ (φ := mu_T → Option mu_T) (fun μ196 => nm_ (x4_137 + 1) (fun n196 => (f_X12_measures_L137 J202 fu137) n196 μ196))
      (fun J196 => f_X12_measures_L147 J196 x4_137 20000 0 μ137))
      (J202 μ137)
def f_X12_measures_L128  : Nat → Int → mu_T → Option mu_T
  | 0, _, _ => none
  | fu128 + 1, x3_128, μ128 => lt_ x3_128 24
      (jn_ (φ := mu_T → Option mu_T) (fun μ202 => nm_ (x3_128 + 1) (fun n202 => (f_X12_measures_L128 fu128) n202 μ202))
      (fun J202 => f_X12_measures_L137 J202 20000 0 μ128))
      (some μ128)
def f_X12_measures_L91 (J126 : mu_T → Option mu_T) (a2 : Int) : Nat → Int → mu_T → Option mu_T
  | 0, _, _ => none
  | fu91 + 1, x3_91, μ91 => lt_ x3_91 24
      (jn_ (φ := mu_T → Option mu_T) (fun μ120 => nm_ (x3_91 + 1) (fun n120 => (f_X12_measures_L91 J126 a2 fu91) n120 μ120))
      (fun J120 => eq_ a2 0
      (J120 μ91)
      (rd_ μ91 1 293 (65 + x3_91) (fun v109 => eq_ v109 1
      (bd_ (f_X12_nears μ91 x3_91 0) (fun μ117 => J120 μ117))
      (J120 μ91)))))
      (J126 μ91)
def f_X12_measures_L57 (J89 : mu_T → Option mu_T) : Nat → Int → mu_T → Option mu_T
  | 0, _, _ => none
  | fu57 + 1, x3_57, μ57 => rd_ μ57 1 293 9 (fun v64 => lt_ x3_57 v64
      (rd_ μ57 1 293 (257 + x3_57) (fun v78 => bd_ (f_X12_nears μ57 v78 0) (fun μ80 => nm_ (x3_57 + 1) (fun n83 => (f_X12_measures_L57 J89 fu57) n83 μ80))))
      (J89 μ57))
def f_X12_measures_L24 (J55 : mu_T → Option mu_T) (a1 : Int) : Nat → Int → mu_T → Option mu_T
  | 0, _, _ => none
  | fu24 + 1, x3_24, μ24 => lt_ x3_24 6
      (jn_ (φ := mu_T → Option mu_T) (fun μ49 => nm_ (x3_24 + 1) (fun n49 => (f_X12_measures_L24 J55 a1 fu24) n49 μ49))
      (fun J49 => eq_ x3_24 a1
      (J49 μ24)
      (rd_ μ24 1 293 (11 + x3_24) (fun v44 => bd_ (f_X12_nears μ24 v44 0) (fun μ46 => J49 μ46)))))
      (J55 μ24)
def f_X12_measures_L2 (J22 : mu_T → Option mu_T) : Nat → Int → mu_T → Option mu_T
  | 0, _, _ => none
  | fu2 + 1, x3_2, μ2 => lt_ x3_2 24
      (wr_ μ2 8 24 x3_2 99 (fun μ15 => nm_ (x3_2 + 1) (fun n16 => (f_X12_measures_L2 J22 fu2) n16 μ15)))
      (J22 μ2)
def f_X12_measures (μ : mu_T) (a1 : Int) (a2 : Int) : Option mu_T :=
  jn_ (φ := mu_T → Option mu_T) (fun μ22 => jn_ (φ := mu_T → Option mu_T) (fun μ55 => jn_ (φ := mu_T → Option mu_T) (fun μ89 => jn_ (φ := mu_T → Option mu_T) (fun μ126 => f_X12_measures_L128 20000 0 μ126)
      (fun J126 => f_X12_measures_L91 J126 a2 20000 0 μ89))
      (fun J89 => f_X12_measures_L57 J89 20000 0 μ55))
      (fun J55 => f_X12_measures_L24 J55 a1 20000 0 μ22))
      (fun J22 => f_X12_measures_L2 J22 20000 0 μ)
def f_X12_reached_L4 (μ : mu_T) : Nat → Int → Int → Option Int
  | 0, _, _ => none
  | fu4 + 1, x1_4, x2_4 => lt_ x2_4 24
      (rd_ μ 8 24 x2_4 (fun v16 => jn_ (φ := Int → Option Int) (fun s0_29 => nm_ ((or_ x1_4 s0_29)) (fun n30 => nm_ (x2_4 + 1) (fun n31 => (f_X12_reached_L4 μ fu4) n30 n31)))
      (fun J29 => lt_ v16 99
      (J29 (sl_ 1 x2_4))
      (J29 0))))
      (some x1_4)
def f_X12_reached (μ : mu_T)  : Option Int :=
  f_X12_reached_L4 μ 20000 0 0
def f_X12_live (μ : mu_T)  : Option (Int × mu_T) :=
  bd_ (f_X12_measures μ (-11) 0) (fun μ4 => bd_ (f_X12_reached μ4) (fun v8 => some (v8, μ4)))
def f_X12_liveAgain (μ : mu_T)  : Option (Int × mu_T) :=
  bp_ (f_X12_live μ) (fun v1 μ1 => some (v1, μ1))
def f_X12_depth (μ : mu_T) (a1 : Int) : Option (Int × mu_T) :=
  bd_ (f_X12_isUrn μ a1) (fun v2 => eq_ v2 0
      (some ((-11), μ))
      (bd_ (f_X12_measures μ (-11) 0) (fun μ15 => rd_ μ15 8 24 a1 (fun v23 => lt_ v23 99
      (rd_ μ15 8 24 a1 (fun v34 => some (v34, μ15)))
      (some ((-15), μ15))))))
def f_X12_keepers_L35 (a1 : Int) : Nat → Int → Int → mu_T → Option (Int × mu_T)
  | 0, _, _, _ => none
  | fu35 + 1, x2_35, x3_35, μ35 => lt_ x3_35 6
      (bd_ (f_X12_measures μ35 x3_35 0) (fun μ44 => rd_ μ44 8 24 a1 (fun v53 => jn_ (φ := Int → Option (Int × mu_T)) (fun s0_66 => nm_ ((or_ x2_35 s0_66)) (fun n67 => nm_ (x3_35 + 1) (fun n68 => (f_X12_keepers_L35 a1 fu35) n67 n68 μ44)))
      (fun J66 => eq_ v53 99
      (J66 (sl_ 1 x3_35))
      (J66 0)))))
      (some (x2_35, μ35))
def f_X12_keepers (μ : mu_T) (a1 : Int) : Option (Int × mu_T) :=
  bd_ (f_X12_isUrn μ a1) (fun v2 => eq_ v2 0
      (some ((-11), μ))
      (bd_ (f_X12_measures μ (-11) 0) (fun μ15 => rd_ μ15 8 24 a1 (fun v23 => eq_ v23 99
      (some (0, μ15))
      (f_X12_keepers_L35 a1 20000 0 0 μ15)))))
def f_X12_ring_L80 (J126 : mu_T → Option (Int × mu_T)) (x3_71 : Int) : Nat → Int → mu_T → Option (Int × mu_T)
  | 0, _, _ => none
  | fu80 + 1, x4_80, μ80 => lt_ x4_80 4
      (rd_ μ80 8 24 x3_71 (fun v91 => jn_ (φ := mu_T → Option (Int × mu_T)) (fun μ120 => nm_ (x4_80 + 1) (fun n120 => (f_X12_ring_L80 J126 x3_71 fu80) n120 μ120))
      (fun J120 => lt_ v91 99
      (bd_ (f_X12_at μ80 x3_71 x4_80) (fun v105 => rd_ μ80 1 293 v105 (fun v108 => rd_ μ80 8 24 x3_71 (fun v114 => bd_ (f_X12_nears μ80 v108 (v114 + 1)) (fun μ117 => J120 μ117)))))
      (J120 μ80))))
      (J126 μ80)
def f_X12_ring_L71 (J132 : mu_T → Option (Int × mu_T)) : Nat → Int → mu_T → Option (Int × mu_T)
  | 0, _, _ => none
  | fu71 + 1, x3_71, μ71 => lt_ x3_71 24
      (jn_ (φ := mu_T → Option (Int × mu_T)) (fun μ126 => nm_ (x3_71 + 1) (fun n126 => (f_X12_ring_L71 J132 fu71) n126 μ126))
      (fun J126 => f_X12_ring_L80 J126 x3_71 20000 0 μ71))
      (J132 μ71)
def f_X12_ring_L63 (J138 : mu_T → Option (Int × mu_T)) : Nat → Int → mu_T → Option (Int × mu_T)
  | 0, _, _ => none
  | fu63 + 1, x2_63, μ63 => lt_ x2_63 24
      (jn_ (φ := mu_T → Option (Int × mu_T)) (fun μ132 => nm_ (x2_63 + 1) (fun n132 => (f_X12_ring_L63 J138 fu63) n132 μ132))
      (fun J132 => f_X12_ring_L71 J132 20000 0 μ63))
      (J138 μ63)
def f_X12_ring_L35 (J61 : mu_T → Option (Int × mu_T)) (a1 : Int) : Nat → Int → mu_T → Option (Int × mu_T)
  | 0, _, _ => none
  | fu35 + 1, x2_35, μ35 => lt_ x2_35 4
      (bd_ (f_X12_at μ35 a1 x2_35) (fun v47 => rd_ μ35 1 293 v47 (fun v50 => bd_ (f_X12_nears μ35 v50 1) (fun μ52 => nm_ (x2_35 + 1) (fun n55 => (f_X12_ring_L35 J61 a1 fu35) n55 μ52)))))
      (J61 μ35)
def f_X12_ring_L13 (J33 : mu_T → Option (Int × mu_T)) : Nat → Int → mu_T → Option (Int × mu_T)
  | 0, _, _ => none
  | fu13 + 1, x2_13, μ13 => lt_ x2_13 24
      (wr_ μ13 8 24 x2_13 99 (fun μ26 => nm_ (x2_13 + 1) (fun n27 => (f_X12_ring_L13 J33 fu13) n27 μ26)))
      (J33 μ13)
def f_X12_ring (μ : mu_T) (a1 : Int) : Option (Int × mu_T) :=
  bd_ (f_X12_isUrn μ a1) (fun v2 => eq_ v2 0
      (some ((-11), μ))
      (jn_ (φ := mu_T → Option (Int × mu_T)) (fun μ33 => jn_ (φ := mu_T → Option (Int × mu_T)) (fun μ61 => jn_ (φ := mu_T → Option (Int × mu_T)) (fun μ138 => rd_ μ138 8 24 a1 (fun v143 => lt_ v143 99
      (rd_ μ138 8 24 a1 (fun v154 => some (v154, μ138)))
      (some ((-15), μ138))))
      (fun J138 => f_X12_ring_L63 J138 20000 0 μ61))
      (fun J61 => f_X12_ring_L35 J61 a1 20000 0 μ33))
      (fun J33 => f_X12_ring_L13 J33 20000 0 μ)))
def f_X12_urns_L4 (μ : mu_T) : Nat → Int → Int → Option Int
  | 0, _, _ => none
  | fu4 + 1, x1_4, x2_4 => lt_ x2_4 24
      (rd_ μ 1 293 (17 + x2_4) (fun v19 => nm_ ((or_ x1_4 (sl_ v19 x2_4))) (fun n23 => nm_ (x2_4 + 1) (fun n24 => (f_X12_urns_L4 μ fu4) n23 n24))))
      (some x1_4)
def f_X12_urns (μ : mu_T)  : Option Int :=
  f_X12_urns_L4 μ 20000 0 0
def f_X12_wouldFree (μ : mu_T)  : Option (Int × mu_T) :=
  bd_ (f_X12_measures μ (-11) 1) (fun μ4 => bd_ (f_X12_urns μ4) (fun v8 => bd_ (f_X12_reached μ4) (fun v12 => some ((an_ v8 (xo_ v12 (-1))), μ4))))
def f_X12_isAhead (μ : mu_T) (a1 : Int) (a2 : Int) : Option Int :=
  bd_ (f_X12_held μ a1) (fun v2 => bd_ (f_X12_held μ a2) (fun v7 => eq_ v2 v7
      (bd_ (f_X12_holds μ a1) (fun v34 => bd_ (f_X12_holds μ a2) (fun v39 => lt_ v39 v34
      (some 1)
      (bd_ (f_X12_holds μ a1) (fun v47 => bd_ (f_X12_holds μ a2) (fun v52 => eq_ v47 v52
      (lt_ a1 a2
      (some 1)
      (some 0))
      (some 0)))))))
      (bd_ (f_X12_held μ a1) (fun v15 => bd_ (f_X12_held μ a2) (fun v20 => lt_ v20 v15
      (some 1)
      (some 0))))))
def f_X12_ranked_L13 (J64 : Int → Option Int) (x2_2 : Int) (μ : mu_T) : Nat → Int → Int → Option Int
  | 0, _, _ => none
  | fu13 + 1, x3_13, x4_13 => lt_ x4_13 24
      (rd_ μ 1 293 (17 + x4_13) (fun v30 => jn_ (φ := Int → Option Int) (fun s0_56 => nm_ ((x3_13 + s0_56)) (fun n57 => nm_ (x4_13 + 1) (fun n58 => (f_X12_ranked_L13 J64 x2_2 μ fu13) n57 n58)))
      (fun J56 => jn_ (φ := Unit → Option Int) (fun _ => J56 0)
      (fun J55 => eq_ v30 1
      (eq_ x4_13 x2_2
      (J55 ())
      (bd_ (f_X12_isAhead μ x4_13 x2_2) (fun v45 => eq_ v45 0
      (J55 ())
      (J56 1))))
      (J55 ())))))
      (J64 x3_13)
def f_X12_ranked_L2 (a1 : Int) (μ : mu_T) : Nat → Int → Option Int
  | 0, _ => none
  | fu2 + 1, x2_2 => lt_ x2_2 24
      (jn_ (φ := Int → Option Int) (fun x3_64 => rd_ μ 1 293 (17 + x2_2) (fun v72 => jn_ (φ := Unit → Option Int) (fun _ => nm_ (x2_2 + 1) (fun n84 => (f_X12_ranked_L2 a1 μ fu2) n84))
      (fun J84 => eq_ v72 1
      (eq_ x3_64 a1
      (some x2_2)
      (J84 ()))
      (J84 ()))))
      (fun J64 => f_X12_ranked_L13 J64 x2_2 μ 20000 0 0))
      (some (-11))
def f_X12_ranked (μ : mu_T) (a1 : Int) : Option Int :=
  f_X12_ranked_L2 a1 μ 20000 0
def f_X12_append (μ : mu_T) (a1 : Int) : Option (Int × mu_T) :=
  bd_ (f_X12_in μ a1 32 126) (fun v5 => eq_ v5 0
      (some ((-12), μ))
      (nm_ (μ 0 10) (fun v15 => eq_ v15 60
      (some ((-13), μ))
      (nm_ (μ 0 10) (fun v31 => wr_ μ 5 60 v31 a1 (fun μ35 => nm_ (μ35 0 10) (fun v38 => wf_ μ35 0 10 (v38 + 1) (fun μ43 => nm_ (μ43 0 10) (fun v47 => some (v47, μ43))))))))))
def f_X12_here (μ : mu_T)  : Option Int :=
  nm_ (μ 0 16) (fun v1 => nm_ (μ 0 17) (fun v5 => lt_ v1 v5
      (nm_ (μ 0 16) (fun v16 => rd_ μ 5 60 v16 (fun v19 => some v19)))
      (some (-11))))
def f_X12_next (μ : mu_T)  : Option Int :=
  nm_ (μ 0 16) (fun v1 => nm_ (μ 0 17) (fun v7 => lt_ (v1 + 1) v7
      (nm_ (μ 0 16) (fun v18 => rd_ μ 5 60 (v18 + 1) (fun v23 => some v23)))
      (some (-11))))
def f_X12_tells (μ : mu_T) (a1 : Int) (a2 : Int) : Option mu_T :=
  nm_ (μ 0 18) (fun v6 => wr_ μ 6 80 ((4 * v6) + a1) a2 (fun μ13 => some μ13))
def f_X12_number_L5 (J61 : Int → Int → mu_T → Option mu_T) (a2 : Int) : Nat → Int → Int → mu_T → Option mu_T
  | 0, _, _, _ => none
  | fu5 + 1, x3_5, x4_5, μ5 => nm_ (μ5 0 19) (fun v6 => eq_ v6 0
      (lt_ x4_5 a2
      (bd_ (f_X12_here μ5) (fun v19 => bd_ (f_X12_in μ5 v19 48 57) (fun v26 => eq_ v26 0
      (J61 x3_5 x4_5 μ5)
      (bd_ (f_X12_here μ5) (fun v37 => nm_ ((((10 * x3_5) + v37) - 48)) (fun n44 => nm_ (μ5 0 16) (fun v47 => wf_ μ5 0 16 (v47 + 1) (fun μ52 => nm_ (x4_5 + 1) (fun n55 => (f_X12_number_L5 J61 a2 fu5) n44 n55 μ52)))))))))
      (J61 x3_5 x4_5 μ5))
      (J61 x3_5 x4_5 μ5))
def f_X12_number (μ : mu_T) (a1 : Int) (a2 : Int) : Option mu_T :=
  jn_ (φ := Int → Int → mu_T → Option mu_T) (fun x3_61 x4_61 μ61 => nm_ (μ61 0 19) (fun v63 => jn_ (φ := Int → Option mu_T) (fun s0_79 => wz_ μ61 0 19 s0_79 (fun μ79 => bd_ (f_X12_tells μ79 a1 x3_61) (fun μ85 => some μ85)))
      (fun J79 => jn_ (φ := Unit → Option mu_T) (fun _ => J79 1)
      (fun J74 => eq_ v63 0
      (eq_ x4_61 0
      (J74 ())
      (J79 0))
      (J74 ())))))
      (fun J61 => f_X12_number_L5 J61 a2 20000 0 0 μ)
def f_X12_letter (μ : mu_T) (a1 : Int) : Option mu_T :=
  nm_ (μ 0 19) (fun v2 => jn_ (φ := Int → Option mu_T) (fun s0_27 => wz_ μ 0 19 s0_27 (fun μ27 => bd_ (f_X12_here μ27) (fun v33 => bd_ (f_X12_tells μ27 a1 (v33 - 97)) (fun μ39 => nm_ (μ39 0 16) (fun v44 => nm_ (μ39 0 19) (fun v48 => eq_ v48 0
      (wf_ μ39 0 16 (v44 + 1) (fun μ60 => some μ60))
      (wf_ μ39 0 16 (v44 + 0) (fun μ60 => some μ60))))))))
      (fun J27 => jn_ (φ := Unit → Option mu_T) (fun _ => J27 1)
      (fun J22 => eq_ v2 0
      (bd_ (f_X12_here μ) (fun v9 => bd_ (f_X12_in μ v9 97 102) (fun v16 => eq_ v16 0
      (J22 ())
      (J27 0))))
      (J22 ()))))
def f_X12_word_L2 (a1 : Int) : Nat → Int → mu_T → Option mu_T
  | 0, _, _ => none
  | fu2 + 1, x2_2, μ2 => gd_ (0 ≤ a1 ∧ a1 < 21) (bd_ (f_G0_length_8abf5 μ2 a1) (fun v4 => lt_ x2_2 v4
      (nm_ (μ2 0 19) (fun v11 => eq_ v11 0
      (bd_ (f_X12_here μ2) (fun v19 => gd_ (0 ≤ a1 ∧ a1 < 21) (bd_ (f_G0_charAt_5068e μ2 a1 x2_2) (fun v24 => jn_ (φ := Int → Option mu_T) (fun s0_35 => wz_ μ2 0 19 s0_35 (fun μ35 => nm_ (μ35 0 16) (fun v40 => nm_ (μ35 0 19) (fun v44 => jn_ (φ := Int → Option mu_T) (fun s0_55 => wf_ μ35 0 16 (v40 + s0_55) (fun μ56 => nm_ (x2_2 + 1) (fun n59 => (f_X12_word_L2 a1 fu2) n59 μ56)))
      (fun J55 => eq_ v44 0
      (J55 1)
      (J55 0))))))
      (fun J35 => eq_ v19 v24
      (J35 0)
      (J35 1))))))
      (some μ2)))
      (some μ2)))
def f_X12_word (μ : mu_T) (a1 : Int) : Option mu_T :=
  f_X12_word_L2 a1 20000 0 μ
def f_X12_slotOf (μ : mu_T) (a1 : Int) : Option mu_T :=
  bd_ (f_X12_word μ a1) (fun μ2 => bd_ (f_X12_number μ2 1 2) (fun μ8 => bd_ (f_X12_word μ8 12) (fun μ14 => bd_ (f_X12_number μ14 2 1) (fun μ20 => some μ20))))
def f_X12_readsOne (μ : mu_T)  : Option mu_T :=
  bd_ (f_X12_here μ) (fun v1 => jn_ (φ := Int → Option mu_T) (fun s0_46 => bd_ (f_X12_tells μ 0 s0_46) (fun μ50 => jn_ (φ := mu_T → Option mu_T) (fun μ340 => nm_ (μ340 0 18) (fun v342 => wf_ μ340 0 18 (v342 + 1) (fun μ347 => some μ347)))
      (fun J340 => ts_ s0_46 [117, 116, 118, 110, 100, 119, 114, 115, 105] [bd_ (f_X12_word μ50 10) (fun μ151 => nm_ (μ151 0 19) (fun v157 => jn_ (φ := Int → Option mu_T) (fun s0_177 => bd_ (f_X12_tells μ151 1 s0_177) (fun μ177 => nm_ (μ177 0 16) (fun v182 => nm_ (μ177 0 18) (fun v191 => rd_ μ177 6 80 ((4 * v191) + 1) (fun v197 => wf_ μ177 0 16 (v182 + v197) (fun μ199 => J340 μ199))))))
      (fun J177 => jn_ (φ := Unit → Option mu_T) (fun _ => J177 0)
      (fun J176 => eq_ v157 0
      (bd_ (f_X12_here μ151) (fun v164 => eq_ v164 33
      (J177 1)
      (J176 ())))
      (J176 ()))))),
      bd_ (f_X12_slotOf μ50 11) (fun μ208 => bd_ (f_X12_word μ208 13) (fun μ214 => bd_ (f_X12_number μ214 3 2) (fun μ220 => J340 μ220))),
      bd_ (f_X12_slotOf μ50 14) (fun μ229 => J340 μ229),
      bd_ (f_X12_word μ50 15) (fun μ238 => bd_ (f_X12_letter μ238 1) (fun μ243 => bd_ (f_X12_word μ243 13) (fun μ249 => bd_ (f_X12_number μ249 2 2) (fun μ255 => J340 μ255)))),
      bd_ (f_X12_word μ50 16) (fun μ264 => bd_ (f_X12_letter μ264 1) (fun μ269 => J340 μ269)),
      bd_ (f_X12_word μ50 17) (fun μ278 => bd_ (f_X12_number μ278 1 2) (fun μ284 => bd_ (f_X12_word μ284 13) (fun μ290 => bd_ (f_X12_number μ290 2 2) (fun μ296 => J340 μ296)))),
      bd_ (f_X12_word μ50 18) (fun μ305 => J340 μ305),
      bd_ (f_X12_word μ50 19) (fun μ314 => bd_ (f_X12_number μ314 1 2) (fun μ320 => J340 μ320)),
      bd_ (f_X12_word μ50 20) (fun μ329 => J340 μ329)]
      (wz_ μ50 0 19 1 (fun μ337 => J340 μ337)))))
      (fun J46 => jn_ (φ := Unit → Option mu_T) (fun _ => jn_ (φ := Unit → Option mu_T) (fun _ => J46 v1)
      (fun J45 => eq_ v1 114
      (bd_ (f_X12_next μ) (fun v32 => eq_ v32 105
      (J46 105)
      (J45 ())))
      (J45 ())))
      (fun J25 => eq_ v1 117
      (bd_ (f_X12_next μ) (fun v12 => eq_ v12 110
      (J46 118)
      (J25 ())))
      (J25 ()))))
def f_X12_does (μ : mu_T) (a1 : Int) : Option (Int × mu_T) :=
  rd_ μ 6 80 ((4 * a1) + 1) (fun v9 => rd_ μ 6 80 ((4 * a1) + 2) (fun v20 => rd_ μ 6 80 (4 * a1) (fun v29 => ts_ v29 [117, 116, 118, 110, 100, 119, 114, 115] [eq_ v9 1
      (bp_ (f_X12_makes μ 1) (fun v135 μ135 => some (v135, μ135)))
      (bp_ (f_X12_makes μ 0) (fun v135 μ135 => some (v135, μ135))),
      rd_ μ 6 80 ((4 * a1) + 3) (fun v151 => bp_ (f_X12_ties μ v9 v20 v151) (fun v152 μ152 => some (v152, μ152))),
      bp_ (f_X12_unties μ v9 v20) (fun v159 μ159 => some (v159, μ159)),
      bp_ (f_X12_names μ v9 v20) (fun v166 μ166 => some (v166, μ166)),
      bp_ (f_X12_drops μ v9) (fun v172 μ172 => some (v172, μ172)),
      bp_ (f_X12_weakens μ v9 v20) (fun v179 μ179 => some (v179, μ179)),
      bp_ (f_X12_wholeRound μ) (fun v184 μ184 => some (v184, μ184)),
      bp_ (f_X12_stepsOn μ v9) (fun v190 μ190 => some (v190, μ190))]
      (bp_ (f_X12_doesRite μ) (fun v195 μ195 => some (v195, μ195))))))
def f_X12_run_L116 (J141 : mu_T → Option (Int × mu_T)) : Nat → Int → mu_T → Option (Int × mu_T)
  | 0, _, _ => none
  | fu116 + 1, x2_116, μ116 => lt_ x2_116 293
      (rd_ μ116 2 293 x2_116 (fun v133 => wr_ μ116 1 293 x2_116 v133 (fun μ134 => nm_ (x2_116 + 1) (fun n135 => (f_X12_run_L116 J141 fu116) n135 μ134))))
      (J141 μ116)
def f_X12_run_L98 (J114 : Int → mu_T → Option (Int × mu_T)) (J159 : mu_T → Option (Int × mu_T)) : Nat → Int → mu_T → Option (Int × mu_T)
  | 0, _, _ => none
  | fu98 + 1, x1_98, μ98 => nm_ (μ98 0 18) (fun v100 => lt_ x1_98 v100
      (bp_ (f_X12_does μ98 x1_98) (fun v108 μ108 => eq_ v108 0
      (nm_ (x1_98 + 1) (fun n153 => (f_X12_run_L98 J114 J159 fu98) n153 μ108))
      (J114 x1_98 μ108)))
      (J159 μ98))
def f_X12_run_L36 (J69 : mu_T → Option (Int × mu_T)) : Nat → mu_T → Option (Int × mu_T)
  | 0, _ => none
  | fu36 + 1, μ36 => nm_ (μ36 0 19) (fun v37 => eq_ v37 0
      (bd_ (f_X12_here μ36) (fun v44 => eq_ v44 59
      (nm_ (μ36 0 16) (fun v54 => wf_ μ36 0 16 (v54 + 1) (fun μ59 => bd_ (f_X12_readsOne μ59) (fun μ63 => (f_X12_run_L36 J69 fu36) μ63))))
      (J69 μ36)))
      (J69 μ36))
def f_X12_run (μ : mu_T)  : Option (Int × mu_T) :=
  bd_ (f_X12_remembers μ) (fun μ1 => wf_ μ1 0 16 0 (fun μ6 => nm_ (μ6 0 10) (fun v11 => wf_ μ6 0 17 v11 (fun μ14 => wf_ μ14 0 10 0 (fun μ19 => wf_ μ19 0 18 0 (fun μ24 => wz_ μ24 0 19 0 (fun μ29 => bd_ (f_X12_readsOne μ29) (fun μ33 => jn_ (φ := mu_T → Option (Int × mu_T)) (fun μ69 => nm_ (μ69 0 19) (fun v70 => jn_ (φ := Unit → Option (Int × mu_T)) (fun _ => nm_ (μ69 0 16) (fun v91 => some (((-1000) - v91), μ69)))
      (fun J87 => eq_ v70 0
      (nm_ (μ69 0 16) (fun v77 => nm_ (μ69 0 17) (fun v81 => lt_ v77 v81
      (J87 ())
      (jn_ (φ := mu_T → Option (Int × mu_T)) (fun μ159 => nm_ (μ159 0 18) (fun v161 => bp_ (f_X12_changed μ159 v161) (fun v164 μ164 => some (v164, μ164))))
      (fun J159 => jn_ (φ := Int → mu_T → Option (Int × mu_T)) (fun x1_114 μ114 => jn_ (φ := mu_T → Option (Int × mu_T)) (fun μ141 => bp_ (f_X12_refused μ141 8 x1_114) (fun v146 μ146 => bp_ (f_X12_ends μ146 v146) (fun v149 μ149 => some (v149, μ149))))
      (fun J141 => f_X12_run_L116 J141 20000 0 μ114))
      (fun J114 => f_X12_run_L98 J114 J159 20000 0 μ69))))))
      (J87 ()))))
      (fun J69 => f_X12_run_L36 J69 20000 μ33)))))))))
def f_X12_writes (μ : mu_T) (a1 : Int) : Option mu_T :=
  nm_ (μ 0 11) (fun v5 => wr_ μ 7 60 v5 a1 (fun μ9 => nm_ (μ9 0 11) (fun v12 => wf_ μ9 0 11 (v12 + 1) (fun μ17 => some μ17))))
def f_X12_writesNumber (μ : mu_T) (a1 : Int) : Option mu_T :=
  jn_ (φ := mu_T → Option mu_T) (fun μ17 => rm_ a1 10 (fun v23 => bd_ (f_X12_writes μ17 (48 + v23)) (fun μ25 => some μ25)))
      (fun J17 => lt_ 9 a1
      (dv_ a1 10 (fun v12 => bd_ (f_X12_writes μ (48 + v12)) (fun μ14 => J17 μ14)))
      (J17 μ))
def f_X12_tell_L65 (J124 : mu_T → Option (Int × mu_T)) (a1 : Int) : Nat → Int → mu_T → Option (Int × mu_T)
  | 0, _, _ => none
  | fu65 + 1, x2_65, μ65 => lt_ x2_65 4
      (jn_ (φ := mu_T → Option (Int × mu_T)) (fun μ80 => bd_ (f_X12_at μ80 a1 x2_65) (fun v86 => rd_ μ80 1 293 v86 (fun v89 => jn_ (φ := mu_T → Option (Int × mu_T)) (fun μ118 => nm_ (x2_65 + 1) (fun n118 => (f_X12_tell_L65 J124 a1 fu65) n118 μ118))
      (fun J118 => eq_ v89 (-15)
      (bd_ (f_X12_writes μ80 45) (fun μ98 => J118 μ98))
      (bd_ (f_X12_at μ80 a1 x2_65) (fun v111 => rd_ μ80 1 293 v111 (fun v114 => bd_ (f_X12_writesNumber μ80 v114) (fun μ115 => J118 μ115))))))))
      (fun J80 => lt_ 0 x2_65
      (bd_ (f_X12_writes μ65 44) (fun μ77 => J80 μ77))
      (J80 μ65)))
      (J124 μ65)
def f_X12_tell (μ : mu_T) (a1 : Int) : Option (Int × mu_T) :=
  bd_ (f_X12_isUrn μ a1) (fun v2 => eq_ v2 0
      (some ((-11), μ))
      (wf_ μ 0 11 0 (fun μ13 => bd_ (f_X12_writesNumber μ13 a1) (fun μ18 => rd_ μ18 1 293 (65 + a1) (fun v29 => jn_ (φ := mu_T → Option (Int × mu_T)) (fun μ57 => bd_ (f_X12_writes μ57 58) (fun μ60 => jn_ (φ := mu_T → Option (Int × mu_T)) (fun μ124 => rd_ μ124 1 293 (113 + a1) (fun v132 => eq_ v132 (-15)
      (nm_ (μ124 0 11) (fun v139 => some (v139, μ124)))
      (bd_ (f_X12_writes μ124 126) (fun μ146 => rd_ μ146 1 293 (113 + a1) (fun v158 => bd_ (f_X12_writesNumber μ146 v158) (fun μ159 => nm_ (μ159 0 11) (fun v163 => some (v163, μ159))))))))
      (fun J124 => f_X12_tell_L65 J124 a1 20000 0 μ60)))
      (fun J57 => lt_ 0 v29
      (rd_ μ18 1 293 (65 + a1) (fun v42 => jn_ (φ := Int → Option (Int × mu_T)) (fun s0_54 => bd_ (f_X12_writes μ18 s0_54) (fun μ54 => J57 μ54))
      (fun J54 => eq_ v42 1
      (J54 33)
      (J54 63))))
      (J57 μ18)))))))
def f_X12_tellHeap_L7  : Nat → Int → mu_T → Option (Int × mu_T)
  | 0, _, _ => none
  | fu7 + 1, x1_7, μ7 => lt_ x1_7 24
      (rd_ μ7 1 293 (17 + x1_7) (fun v22 => jn_ (φ := Int → Option (Int × mu_T)) (fun s0_68 => bd_ (f_X12_writes μ7 s0_68) (fun μ68 => nm_ (x1_7 + 1) (fun n71 => (f_X12_tellHeap_L7 fu7) n71 μ68)))
      (fun J68 => eq_ v22 0
      (J68 46)
      (rd_ μ7 1 293 (41 + x1_7) (fun v39 => eq_ v39 0
      (J68 119)
      (rd_ μ7 1 293 (41 + x1_7) (fun v56 => eq_ v56 1
      (J68 103)
      (J68 98))))))))
      (nm_ (μ7 0 11) (fun v78 => some (v78, μ7)))
def f_X12_tellHeap (μ : mu_T)  : Option (Int × mu_T) :=
  wf_ μ 0 11 0 (fun μ2 => f_X12_tellHeap_L7 20000 0 μ2)
def f_X12_character (μ : mu_T) (a1 : Int) : Option Int :=
  nm_ (μ 0 11) (fun v3 => bd_ (f_X12_in μ a1 0 (v3 - 1)) (fun v8 => eq_ v8 0
      (some (-11))
      (rd_ μ 7 60 a1 (fun v19 => some v19))))
def f_X12_reason (μ : mu_T) (a1 : Int) : Option Int :=
  nm_ (μ 0 12) (fun v1 => eq_ v1 0
      (some (-15))
      (eq_ a1 0
      (nm_ (μ 0 12) (fun v24 => some v24))
      (nm_ (μ 0 13) (fun v17 => some v17))))
def f_X12_manyUrns_L4 (μ : mu_T) : Nat → Int → Int → Option Int
  | 0, _, _ => none
  | fu4 + 1, x1_4, x2_4 => lt_ x2_4 24
      (rd_ μ 1 293 (17 + x2_4) (fun v19 => nm_ ((x1_4 + v19)) (fun n21 => nm_ (x2_4 + 1) (fun n22 => (f_X12_manyUrns_L4 μ fu4) n21 n22))))
      (some x1_4)
def f_X12_manyUrns (μ : mu_T)  : Option Int :=
  f_X12_manyUrns_L4 μ 20000 0 0
def f_X12_manyThat_L4 (a1 : Int) (μ : mu_T) : Nat → Int → Int → Option Int
  | 0, _, _ => none
  | fu4 + 1, x2_4, x3_4 => lt_ x3_4 24
      (rd_ μ 1 293 (17 + x3_4) (fun v19 => jn_ (φ := Int → Option Int) (fun s0_42 => nm_ ((x2_4 + s0_42)) (fun n43 => nm_ (x3_4 + 1) (fun n44 => (f_X12_manyThat_L4 a1 μ fu4) n43 n44)))
      (fun J42 => jn_ (φ := Unit → Option Int) (fun _ => J42 0)
      (fun J41 => eq_ v19 1
      (rd_ μ 1 293 (41 + x3_4) (fun v32 => eq_ v32 a1
      (J42 1)
      (J41 ())))
      (J41 ())))))
      (some x2_4)
def f_X12_manyThat (μ : mu_T) (a1 : Int) : Option Int :=
  f_X12_manyThat_L4 a1 μ 20000 0 0
def f_X12_namesUsed_L4 (μ : mu_T) : Nat → Int → Int → Option Int
  | 0, _, _ => none
  | fu4 + 1, x1_4, x2_4 => lt_ x2_4 6
      (rd_ μ 1 293 (11 + x2_4) (fun v19 => jn_ (φ := Int → Option Int) (fun s0_30 => nm_ ((x1_4 + s0_30)) (fun n31 => nm_ (x2_4 + 1) (fun n32 => (f_X12_namesUsed_L4 μ fu4) n31 n32)))
      (fun J30 => eq_ v19 (-15)
      (J30 0)
      (J30 1))))
      (some x1_4)
def f_X12_namesUsed (μ : mu_T)  : Option Int :=
  f_X12_namesUsed_L4 μ 20000 0 0
def f_X12_account (μ : mu_T) (a1 : Int) : Option Int :=
  bd_ (f_X12_in μ a1 4 6) (fun v4 => eq_ v4 0
      (ts_ a1 [0, 1, 2, 3, 7, 8, 9, 10, 11, 12, 13, 14, 15] [rd_ μ 1 293 2 (fun v101 => some v101),
      rd_ μ 1 293 0 (fun v108 => some v108),
      rd_ μ 1 293 1 (fun v115 => some v115),
      bd_ (f_X12_manyUrns μ) (fun v118 => some v118),
      rd_ μ 1 293 3 (fun v127 => some v127),
      rd_ μ 1 293 4 (fun v134 => some v134),
      rd_ μ 1 293 9 (fun v142 => some v142),
      rd_ μ 1 293 5 (fun v149 => some v149),
      rd_ μ 1 293 6 (fun v157 => some v157),
      bd_ (f_X12_namesUsed μ) (fun v160 => some v160),
      rd_ μ 1 293 7 (fun v170 => some v170),
      nm_ (μ 0 10) (fun v173 => some v173),
      nm_ (μ 0 4) (fun v178 => some v178)]
      (some (-12)))
      (bd_ (f_X12_manyThat μ (a1 - 4)) (fun v14 => some v14)))
def f_X12_isThere (μ : mu_T) (a1 : Int) : Option Int :=
  eq_ a1 (-15)
      (some 1)
      (bd_ (f_X12_isUrn μ a1) (fun v8 => eq_ v8 0
      (some 0)
      (some 1)))
def f_X12_isFit_L16 (a1 : Int) (μ : mu_T) : Nat → Int → Int → Option Int
  | 0, _, _ => none
  | fu16 + 1, x2_16, x3_16 => lt_ x3_16 4
      (bd_ (f_X12_at μ a1 x3_16) (fun v27 => rd_ μ 1 293 v27 (fun v30 => jn_ (φ := Int → Option Int) (fun s0_94 => nm_ (x3_16 + 1) (fun n95 => (f_X12_isFit_L16 a1 μ fu16) s0_94 n95))
      (fun J94 => jn_ (φ := Unit → Option Int) (fun _ => J94 0)
      (fun J93 => eq_ x2_16 0
      (J93 ())
      (bd_ (f_X12_isThere μ v30) (fun v40 => eq_ v40 0
      (J93 ())
      (jn_ (φ := Unit → Option Int) (fun _ => J94 1)
      (fun J89 => eq_ v30 (-15)
      (J89 ())
      (rd_ μ 1 293 0 (fun v58 => eq_ v58 1
      (rd_ μ 1 293 (41 + a1) (fun v71 => eq_ v71 2
      (rd_ μ 1 293 (41 + v30) (fun v85 => eq_ v85 0
      (J93 ())
      (J89 ())))
      (J89 ())))
      (J89 ()))))))))))))
      (ry_ x2_16)
def f_X12_isFit (μ : mu_T) (a1 : Int) : Option Int :=
  rd_ μ 1 293 (113 + a1) (fun v9 => bd_ (f_X12_isThere μ v9) (fun v10 => f_X12_isFit_L16 a1 μ 20000 v10 0))
def f_X12_isBalanced_L60 (J98 : Int → Option Int) (μ : mu_T) : Nat → Int → Int → Option Int
  | 0, _, _ => none
  | fu60 + 1, x1_60, x2_60 => lt_ x2_60 6
      (jn_ (φ := Int → Option Int) (fun s0_91 => nm_ (x2_60 + 1) (fun n92 => (f_X12_isBalanced_L60 J98 μ fu60) s0_91 n92))
      (fun J91 => jn_ (φ := Unit → Option Int) (fun _ => J91 0)
      (fun J90 => eq_ x1_60 0
      (J90 ())
      (rd_ μ 1 293 (11 + x2_60) (fun v79 => bd_ (f_X12_isThere μ v79) (fun v80 => eq_ v80 0
      (J90 ())
      (J91 1)))))))
      (J98 x1_60)
def f_X12_isBalanced_L28 (J58 : Int → Option Int) (μ : mu_T) : Nat → Int → Int → Option Int
  | 0, _, _ => none
  | fu28 + 1, x1_28, x2_28 => lt_ x2_28 24
      (jn_ (φ := Int → Option Int) (fun s0_51 => nm_ (x2_28 + 1) (fun n52 => (f_X12_isBalanced_L28 J58 μ fu28) s0_51 n52))
      (fun J51 => jn_ (φ := Unit → Option Int) (fun _ => J51 0)
      (fun J50 => eq_ x1_28 0
      (J50 ())
      (bd_ (f_X12_isFit μ x2_28) (fun v40 => eq_ v40 0
      (J50 ())
      (J51 1))))))
      (J58 x1_28)
def f_X12_isBalanced (μ : mu_T)  : Option Int :=
  rd_ μ 1 293 3 (fun v5 => bd_ (f_X12_manyUrns μ) (fun v7 => rd_ μ 1 293 4 (fun v15 => jn_ (φ := Int → Option Int) (fun s0_25 => jn_ (φ := Int → Option Int) (fun x1_58 => jn_ (φ := Int → Option Int) (fun x1_98 => eq_ x1_98 0
      (some 0)
      (some 1))
      (fun J98 => f_X12_isBalanced_L60 J98 μ 20000 x1_58 0))
      (fun J58 => f_X12_isBalanced_L28 J58 μ 20000 s0_25 0))
      (fun J25 => eq_ v5 (v7 + v15)
      (J25 1)
      (J25 0)))))
def f_X12_meanHeld_L9 (J46 : Int → Option UInt64) (μ : mu_T) : Nat → Int → Int → Option UInt64
  | 0, _, _ => none
  | fu9 + 1, x2_9, x3_9 => lt_ x3_9 24
      (rd_ μ 1 293 (17 + x3_9) (fun v24 => jn_ (φ := Int → Option UInt64) (fun s0_38 => nm_ ((x2_9 + s0_38)) (fun n39 => nm_ (x3_9 + 1) (fun n40 => (f_X12_meanHeld_L9 J46 μ fu9) n39 n40)))
      (fun J38 => eq_ v24 1
      (bd_ (f_X12_held μ x3_9) (fun v31 => J38 v31))
      (J38 0))))
      (J46 x2_9)
def f_X12_meanHeld (μ : mu_T)  : Option UInt64 :=
  bd_ (f_X12_manyUrns μ) (fun v1 => jn_ (φ := Int → Option UInt64) (fun x2_46 => eq_ v1 0
      (some (FP.dconst0))
      (dd_ (FP.i2d (iI x2_46)) (FP.i2d (iI v1)) (fun v58 => some v58)))
      (fun J46 => f_X12_meanHeld_L9 J46 μ 20000 0 0))
def f_X12_liveShare_L15 (J37 : Int → Option (UInt32 × mu_T)) (v6 : Int) : Nat → Int → Int → Option (UInt32 × mu_T)
  | 0, _, _ => none
  | fu15 + 1, x3_15, x4_15 => lt_ x4_15 24
      (nm_ ((x3_15 + (an_ (sr_ v6 x4_15) 1))) (fun n30 => nm_ (x4_15 + 1) (fun n31 => (f_X12_liveShare_L15 J37 v6 fu15) n30 n31)))
      (J37 x3_15)
def f_X12_liveShare (μ : mu_T)  : Option (UInt32 × mu_T) :=
  bd_ (f_X12_manyUrns μ) (fun v1 => bp_ (f_X12_live μ) (fun v6 μ6 => jn_ (φ := Int → Option (UInt32 × mu_T)) (fun x3_37 => eq_ v1 0
      (some (FP.fconst0, μ6))
      (fd_ (FP.i2f (iI x3_37)) (FP.i2f (iI v1)) (fun v49 => some (v49, μ6))))
      (fun J37 => f_X12_liveShare_L15 J37 v6 20000 0 0)))
def f_X12_undo_L22  : Nat → Int → mu_T → Option (Int × mu_T)
  | 0, _, _ => none
  | fu22 + 1, x1_22, μ22 => lt_ x1_22 293
      (nm_ (μ22 0 4) (fun v42 => rd_ μ22 4 2344 ((293 * v42) + x1_22) (fun v48 => wr_ μ22 1 293 x1_22 v48 (fun μ49 => nm_ (x1_22 + 1) (fun n50 => (f_X12_undo_L22 fu22) n50 μ49)))))
      (nm_ (μ22 0 4) (fun v57 => some (v57, μ22)))
def f_X12_undo (μ : mu_T)  : Option (Int × mu_T) :=
  nm_ (μ 0 4) (fun v1 => eq_ v1 0
      (some ((-15), μ))
      (nm_ (μ 0 4) (fun v12 => wf_ μ 0 4 (v12 - 1) (fun μ17 => f_X12_undo_L22 20000 0 μ17))))
def f_X12_save_L2 (J27 : mu_T → Option (Int × mu_T)) : Nat → Int → mu_T → Option (Int × mu_T)
  | 0, _, _ => none
  | fu2 + 1, x1_2, μ2 => lt_ x1_2 293
      (rd_ μ2 1 293 x1_2 (fun v19 => wr_ μ2 3 293 x1_2 v19 (fun μ20 => nm_ (x1_2 + 1) (fun n21 => (f_X12_save_L2 J27 fu2) n21 μ20))))
      (J27 μ2)
def f_X12_save (μ : mu_T)  : Option (Int × mu_T) :=
  jn_ (φ := mu_T → Option (Int × mu_T)) (fun μ27 => wz_ μ27 0 5 1 (fun μ29 => bd_ (f_X12_manyUrns μ29) (fun v33 => some (v33, μ29))))
      (fun J27 => f_X12_save_L2 J27 20000 0 μ)
def f_X12_restore_L12 (J37 : mu_T → Option (Int × mu_T)) : Nat → Int → mu_T → Option (Int × mu_T)
  | 0, _, _ => none
  | fu12 + 1, x1_12, μ12 => lt_ x1_12 293
      (rd_ μ12 3 293 x1_12 (fun v29 => wr_ μ12 1 293 x1_12 v29 (fun μ30 => nm_ (x1_12 + 1) (fun n31 => (f_X12_restore_L12 J37 fu12) n31 μ30))))
      (J37 μ12)
def f_X12_restore (μ : mu_T)  : Option (Int × mu_T) :=
  nm_ (μ 0 5) (fun v1 => eq_ v1 0
      (some ((-15), μ))
      (jn_ (φ := mu_T → Option (Int × mu_T)) (fun μ37 => wf_ μ37 0 4 0 (fun μ39 => bd_ (f_X12_manyUrns μ39) (fun v43 => some (v43, μ39))))
      (fun J37 => f_X12_restore_L12 J37 20000 0 μ)))
end GH
def f_X12i_L99  : Nat → Int → mu_T → Option mu_T
  | 0, _, _ => none
  | fu99 + 1, x1_99, μ99 => lt_ x1_99 24
      (bd_ (f_X12_empties μ99 x1_99) (fun μ107 => nm_ (x1_99 + 1) (fun n110 => (f_X12i_L99 fu99) n110 μ107)))
      (some μ99)
def f_X12i_L74 (J97 : mu_T → Option mu_T) : Nat → Int → mu_T → Option mu_T
  | 0, _, _ => none
  | fu74 + 1, x1_74, μ74 => lt_ x1_74 6
      (wr_ μ74 1 293 (11 + x1_74) (-15) (fun μ90 => nm_ (x1_74 + 1) (fun n91 => (f_X12i_L74 J97 fu74) n91 μ90)))
      (J97 μ74)
def f_X12i (μ : mu_T) : Option mu_T :=
  jn_ (φ := mu_T → Option mu_T) (fun μ97 => f_X12i_L99 20000 0 μ97)
      (fun J97 => f_X12i_L74 J97 20000 0 μ)
def mM0_ : mu_T := (f_X12i mz_).getD mz_
