/-! the start: what the statement tells of it (written by wip/gen/sgen.py) -/
def nf_ : List Cond := flatC (Cond.and given_1 narrow_1)
theorem va_eqtt {args : Array Value} {s : State} {t u : Term} {a : Nat} (h : (Cond.eq t u).before args s = true) (hu : u.eval args s none [] s = some (.ref a)) : t.eval args s none [] s = some (.ref a) := by
  cases hv : t.eval args s none [] s with
  | none => simp [Cond.before, Cond.holds, Cond.value, hv] at h
  | some w =>
    cases w <;> simp [Cond.before, Cond.holds, Cond.value, hv, hu] at h ⊢
    exact h
theorem va_Tx {ty : FieldType} {t N : Nat} {f g : Nat → Value} {A : Nat → Prop} {U : State} {H : Heap} (h : va_T ty t N f A U H) (hfg : ∀ j, j < N → f j = g j) : va_T ty t N g A U H := by
  obtain ⟨cell, h1, h2, h3, h4, h5, h6, h7⟩ := h
  exact ⟨cell, h1, h2, h3, h4, h5, fun j hj => by rw [← hfg j hj]; exact h6 j hj, h7⟩
theorem ss_0 {args : Array Value} {s : State} (hs : ∀ w ∈ nf_, w.before args s = true) : ∃ aK aV : Nat, vk_S 1 [(skl_.getD 0 []).length] [(skl_.getD 0 []).map iI] (fun _ => aK) (fun _ => aV) (fun q => s.heap.size ≤ q) s s.heap ∧ (Term.string "UrnHeap$Kind" 58).eval args s none [] s = some (.ref aK) := by
  have hw : (List.range 3).all (fun j => decide (nf_[404 + j]? = some (Cond.eq (Term.elem (Term.field (Term.string "UrnHeap$Kind" 58) "java/lang/String" "value" "[B") (Term.int (Int32.ofNat j))) (Term.int (((skl_.getD 0 []).map iI).getD j 0))))) = true := by decide +kernel
  obtain ⟨adK, adV, h1, h2⟩ := vk_Sof (args := args) (s := s) (N := 1) (tm := fun _ => (Term.string "UrnHeap$Kind" 58)) (len := [(skl_.getD 0 []).length]) (byt := [(skl_.getD 0 []).map iI]) (A := (fun q => s.heap.size ≤ q)) (fun i hi => by
      obtain rfl : i = 0 := by omega
      decide) (fun _ _ => (hs ((Cond.exactly (Term.string "UrnHeap$Kind" 58) "java/lang/String")) (List.mem_of_getElem? (i := 400) (by decide +kernel)))) (fun _ _ => (hs ((Cond.eq (Term.field (Term.string "UrnHeap$Kind" 58) "java/lang/String" "coder" "B") (Term.int 0))) (List.mem_of_getElem? (i := 401) (by decide +kernel)))) (fun _ _ => (hs ((Cond.arrayOf (Term.field (Term.string "UrnHeap$Kind" 58) "java/lang/String" "value" "[B") FieldType.byte)) (List.mem_of_getElem? (i := 402) (by decide +kernel)))) (fun i hi => by
      obtain rfl : i = 0 := by omega
      exact (hs ((Cond.eq (Term.length (Term.field (Term.string "UrnHeap$Kind" 58) "java/lang/String" "value" "[B")) (Term.int 3))) (List.mem_of_getElem? (i := 403) (by decide +kernel)))) (fun i hi j hj => by
      obtain rfl : i = 0 := by omega
      exact hs _ (List.mem_of_getElem? (i := 404 + j) (of_decide_eq_true (List.all_eq_true.mp hw j (List.mem_range.mpr hj))))) (fun i j hi hj hij => absurd (show i = j by omega) hij) (fun a h => Nat.not_le.mpr h)
  refine ⟨adK 0, adV 0, ⟨fun i hi => ?_, fun i j hi hj _ => by omega⟩, h2 0 (by decide)⟩
  obtain rfl : i = 0 := by omega
  exact h1.1 0 (by decide)
theorem ss_1 {args : Array Value} {s : State} (hs : ∀ w ∈ nf_, w.before args s = true) : ∃ aK aV : Nat, vk_S 1 [(skl_.getD 1 []).length] [(skl_.getD 1 []).map iI] (fun _ => aK) (fun _ => aV) (fun q => s.heap.size ≤ q) s s.heap ∧ (Term.string "UrnHeap$Kind" 64).eval args s none [] s = some (.ref aK) := by
  have hw : (List.range 4).all (fun j => decide (nf_[417 + j]? = some (Cond.eq (Term.elem (Term.field (Term.string "UrnHeap$Kind" 64) "java/lang/String" "value" "[B") (Term.int (Int32.ofNat j))) (Term.int (((skl_.getD 1 []).map iI).getD j 0))))) = true := by decide +kernel
  obtain ⟨adK, adV, h1, h2⟩ := vk_Sof (args := args) (s := s) (N := 1) (tm := fun _ => (Term.string "UrnHeap$Kind" 64)) (len := [(skl_.getD 1 []).length]) (byt := [(skl_.getD 1 []).map iI]) (A := (fun q => s.heap.size ≤ q)) (fun i hi => by
      obtain rfl : i = 0 := by omega
      decide) (fun _ _ => (hs ((Cond.exactly (Term.string "UrnHeap$Kind" 64) "java/lang/String")) (List.mem_of_getElem? (i := 413) (by decide +kernel)))) (fun _ _ => (hs ((Cond.eq (Term.field (Term.string "UrnHeap$Kind" 64) "java/lang/String" "coder" "B") (Term.int 0))) (List.mem_of_getElem? (i := 414) (by decide +kernel)))) (fun _ _ => (hs ((Cond.arrayOf (Term.field (Term.string "UrnHeap$Kind" 64) "java/lang/String" "value" "[B") FieldType.byte)) (List.mem_of_getElem? (i := 415) (by decide +kernel)))) (fun i hi => by
      obtain rfl : i = 0 := by omega
      exact (hs ((Cond.eq (Term.length (Term.field (Term.string "UrnHeap$Kind" 64) "java/lang/String" "value" "[B")) (Term.int 4))) (List.mem_of_getElem? (i := 416) (by decide +kernel)))) (fun i hi j hj => by
      obtain rfl : i = 0 := by omega
      exact hs _ (List.mem_of_getElem? (i := 417 + j) (of_decide_eq_true (List.all_eq_true.mp hw j (List.mem_range.mpr hj))))) (fun i j hi hj hij => absurd (show i = j by omega) hij) (fun a h => Nat.not_le.mpr h)
  refine ⟨adK 0, adV 0, ⟨fun i hi => ?_, fun i j hi hj _ => by omega⟩, h2 0 (by decide)⟩
  obtain rfl : i = 0 := by omega
  exact h1.1 0 (by decide)
theorem ss_2 {args : Array Value} {s : State} (hs : ∀ w ∈ nf_, w.before args s = true) : ∃ aK aV : Nat, vk_S 1 [(skl_.getD 2 []).length] [(skl_.getD 2 []).map iI] (fun _ => aK) (fun _ => aV) (fun q => s.heap.size ≤ q) s s.heap ∧ (Term.string "UrnHeap$Kind" 67).eval args s none [] s = some (.ref aK) := by
  have hw : (List.range 9).all (fun j => decide (nf_[432 + j]? = some (Cond.eq (Term.elem (Term.field (Term.string "UrnHeap$Kind" 67) "java/lang/String" "value" "[B") (Term.int (Int32.ofNat j))) (Term.int (((skl_.getD 2 []).map iI).getD j 0))))) = true := by decide +kernel
  obtain ⟨adK, adV, h1, h2⟩ := vk_Sof (args := args) (s := s) (N := 1) (tm := fun _ => (Term.string "UrnHeap$Kind" 67)) (len := [(skl_.getD 2 []).length]) (byt := [(skl_.getD 2 []).map iI]) (A := (fun q => s.heap.size ≤ q)) (fun i hi => by
      obtain rfl : i = 0 := by omega
      decide) (fun _ _ => (hs ((Cond.exactly (Term.string "UrnHeap$Kind" 67) "java/lang/String")) (List.mem_of_getElem? (i := 428) (by decide +kernel)))) (fun _ _ => (hs ((Cond.eq (Term.field (Term.string "UrnHeap$Kind" 67) "java/lang/String" "coder" "B") (Term.int 0))) (List.mem_of_getElem? (i := 429) (by decide +kernel)))) (fun _ _ => (hs ((Cond.arrayOf (Term.field (Term.string "UrnHeap$Kind" 67) "java/lang/String" "value" "[B") FieldType.byte)) (List.mem_of_getElem? (i := 430) (by decide +kernel)))) (fun i hi => by
      obtain rfl : i = 0 := by omega
      exact (hs ((Cond.eq (Term.length (Term.field (Term.string "UrnHeap$Kind" 67) "java/lang/String" "value" "[B")) (Term.int 9))) (List.mem_of_getElem? (i := 431) (by decide +kernel)))) (fun i hi j hj => by
      obtain rfl : i = 0 := by omega
      exact hs _ (List.mem_of_getElem? (i := 432 + j) (of_decide_eq_true (List.all_eq_true.mp hw j (List.mem_range.mpr hj))))) (fun i j hi hj hij => absurd (show i = j by omega) hij) (fun a h => Nat.not_le.mpr h)
  refine ⟨adK 0, adV 0, ⟨fun i hi => ?_, fun i j hi hj _ => by omega⟩, h2 0 (by decide)⟩
  obtain rfl : i = 0 := by omega
  exact h1.1 0 (by decide)
theorem ss_3 {args : Array Value} {s : State} (hs : ∀ w ∈ nf_, w.before args s = true) : ∃ aK aV : Nat, vk_S 1 [(skl_.getD 3 []).length] [(skl_.getD 3 []).map iI] (fun _ => aK) (fun _ => aV) (fun q => s.heap.size ≤ q) s s.heap ∧ (Term.string "UrnHeap$Kind" 70).eval args s none [] s = some (.ref aK) := by
  have hw : (List.range 9).all (fun j => decide (nf_[453 + j]? = some (Cond.eq (Term.elem (Term.field (Term.string "UrnHeap$Kind" 70) "java/lang/String" "value" "[B") (Term.int (Int32.ofNat j))) (Term.int (((skl_.getD 3 []).map iI).getD j 0))))) = true := by decide +kernel
  obtain ⟨adK, adV, h1, h2⟩ := vk_Sof (args := args) (s := s) (N := 1) (tm := fun _ => (Term.string "UrnHeap$Kind" 70)) (len := [(skl_.getD 3 []).length]) (byt := [(skl_.getD 3 []).map iI]) (A := (fun q => s.heap.size ≤ q)) (fun i hi => by
      obtain rfl : i = 0 := by omega
      decide) (fun _ _ => (hs ((Cond.exactly (Term.string "UrnHeap$Kind" 70) "java/lang/String")) (List.mem_of_getElem? (i := 449) (by decide +kernel)))) (fun _ _ => (hs ((Cond.eq (Term.field (Term.string "UrnHeap$Kind" 70) "java/lang/String" "coder" "B") (Term.int 0))) (List.mem_of_getElem? (i := 450) (by decide +kernel)))) (fun _ _ => (hs ((Cond.arrayOf (Term.field (Term.string "UrnHeap$Kind" 70) "java/lang/String" "value" "[B") FieldType.byte)) (List.mem_of_getElem? (i := 451) (by decide +kernel)))) (fun i hi => by
      obtain rfl : i = 0 := by omega
      exact (hs ((Cond.eq (Term.length (Term.field (Term.string "UrnHeap$Kind" 70) "java/lang/String" "value" "[B")) (Term.int 9))) (List.mem_of_getElem? (i := 452) (by decide +kernel)))) (fun i hi j hj => by
      obtain rfl : i = 0 := by omega
      exact hs _ (List.mem_of_getElem? (i := 453 + j) (of_decide_eq_true (List.all_eq_true.mp hw j (List.mem_range.mpr hj))))) (fun i j hi hj hij => absurd (show i = j by omega) hij) (fun a h => Nat.not_le.mpr h)
  refine ⟨adK 0, adV 0, ⟨fun i hi => ?_, fun i j hi hj _ => by omega⟩, h2 0 (by decide)⟩
  obtain rfl : i = 0 := by omega
  exact h1.1 0 (by decide)
theorem ss_4 {args : Array Value} {s : State} (hs : ∀ w ∈ nf_, w.before args s = true) : ∃ aK aV : Nat, vk_S 1 [(skl_.getD 4 []).length] [(skl_.getD 4 []).map iI] (fun _ => aK) (fun _ => aV) (fun q => s.heap.size ≤ q) s s.heap ∧ (Term.string "UrnHeap$Kind" 73).eval args s none [] s = some (.ref aK) := by
  have hw : (List.range 8).all (fun j => decide (nf_[475 + j]? = some (Cond.eq (Term.elem (Term.field (Term.string "UrnHeap$Kind" 73) "java/lang/String" "value" "[B") (Term.int (Int32.ofNat j))) (Term.int (((skl_.getD 4 []).map iI).getD j 0))))) = true := by decide +kernel
  obtain ⟨adK, adV, h1, h2⟩ := vk_Sof (args := args) (s := s) (N := 1) (tm := fun _ => (Term.string "UrnHeap$Kind" 73)) (len := [(skl_.getD 4 []).length]) (byt := [(skl_.getD 4 []).map iI]) (A := (fun q => s.heap.size ≤ q)) (fun i hi => by
      obtain rfl : i = 0 := by omega
      decide) (fun _ _ => (hs ((Cond.exactly (Term.string "UrnHeap$Kind" 73) "java/lang/String")) (List.mem_of_getElem? (i := 471) (by decide +kernel)))) (fun _ _ => (hs ((Cond.eq (Term.field (Term.string "UrnHeap$Kind" 73) "java/lang/String" "coder" "B") (Term.int 0))) (List.mem_of_getElem? (i := 472) (by decide +kernel)))) (fun _ _ => (hs ((Cond.arrayOf (Term.field (Term.string "UrnHeap$Kind" 73) "java/lang/String" "value" "[B") FieldType.byte)) (List.mem_of_getElem? (i := 473) (by decide +kernel)))) (fun i hi => by
      obtain rfl : i = 0 := by omega
      exact (hs ((Cond.eq (Term.length (Term.field (Term.string "UrnHeap$Kind" 73) "java/lang/String" "value" "[B")) (Term.int 8))) (List.mem_of_getElem? (i := 474) (by decide +kernel)))) (fun i hi j hj => by
      obtain rfl : i = 0 := by omega
      exact hs _ (List.mem_of_getElem? (i := 475 + j) (of_decide_eq_true (List.all_eq_true.mp hw j (List.mem_range.mpr hj))))) (fun i j hi hj hij => absurd (show i = j by omega) hij) (fun a h => Nat.not_le.mpr h)
  refine ⟨adK 0, adV 0, ⟨fun i hi => ?_, fun i j hi hj _ => by omega⟩, h2 0 (by decide)⟩
  obtain rfl : i = 0 := by omega
  exact h1.1 0 (by decide)
theorem ss_5 {args : Array Value} {s : State} (hs : ∀ w ∈ nf_, w.before args s = true) : ∃ aK aV : Nat, vk_S 1 [(skl_.getD 5 []).length] [(skl_.getD 5 []).map iI] (fun _ => aK) (fun _ => aV) (fun q => s.heap.size ≤ q) s s.heap ∧ (Term.string "UrnHeap$Kind" 76).eval args s none [] s = some (.ref aK) := by
  have hw : (List.range 6).all (fun j => decide (nf_[497 + j]? = some (Cond.eq (Term.elem (Term.field (Term.string "UrnHeap$Kind" 76) "java/lang/String" "value" "[B") (Term.int (Int32.ofNat j))) (Term.int (((skl_.getD 5 []).map iI).getD j 0))))) = true := by decide +kernel
  obtain ⟨adK, adV, h1, h2⟩ := vk_Sof (args := args) (s := s) (N := 1) (tm := fun _ => (Term.string "UrnHeap$Kind" 76)) (len := [(skl_.getD 5 []).length]) (byt := [(skl_.getD 5 []).map iI]) (A := (fun q => s.heap.size ≤ q)) (fun i hi => by
      obtain rfl : i = 0 := by omega
      decide) (fun _ _ => (hs ((Cond.exactly (Term.string "UrnHeap$Kind" 76) "java/lang/String")) (List.mem_of_getElem? (i := 493) (by decide +kernel)))) (fun _ _ => (hs ((Cond.eq (Term.field (Term.string "UrnHeap$Kind" 76) "java/lang/String" "coder" "B") (Term.int 0))) (List.mem_of_getElem? (i := 494) (by decide +kernel)))) (fun _ _ => (hs ((Cond.arrayOf (Term.field (Term.string "UrnHeap$Kind" 76) "java/lang/String" "value" "[B") FieldType.byte)) (List.mem_of_getElem? (i := 495) (by decide +kernel)))) (fun i hi => by
      obtain rfl : i = 0 := by omega
      exact (hs ((Cond.eq (Term.length (Term.field (Term.string "UrnHeap$Kind" 76) "java/lang/String" "value" "[B")) (Term.int 6))) (List.mem_of_getElem? (i := 496) (by decide +kernel)))) (fun i hi j hj => by
      obtain rfl : i = 0 := by omega
      exact hs _ (List.mem_of_getElem? (i := 497 + j) (of_decide_eq_true (List.all_eq_true.mp hw j (List.mem_range.mpr hj))))) (fun i j hi hj hij => absurd (show i = j by omega) hij) (fun a h => Nat.not_le.mpr h)
  refine ⟨adK 0, adV 0, ⟨fun i hi => ?_, fun i j hi hj _ => by omega⟩, h2 0 (by decide)⟩
  obtain rfl : i = 0 := by omega
  exact h1.1 0 (by decide)
theorem ss_6 {args : Array Value} {s : State} (hs : ∀ w ∈ nf_, w.before args s = true) : ∃ aK aV : Nat, vk_S 1 [(skl_.getD 6 []).length] [(skl_.getD 6 []).map iI] (fun _ => aK) (fun _ => aV) (fun q => s.heap.size ≤ q) s s.heap ∧ (Term.string "UrnHeap$Kind" 79).eval args s none [] s = some (.ref aK) := by
  have hw : (List.range 8).all (fun j => decide (nf_[518 + j]? = some (Cond.eq (Term.elem (Term.field (Term.string "UrnHeap$Kind" 79) "java/lang/String" "value" "[B") (Term.int (Int32.ofNat j))) (Term.int (((skl_.getD 6 []).map iI).getD j 0))))) = true := by decide +kernel
  obtain ⟨adK, adV, h1, h2⟩ := vk_Sof (args := args) (s := s) (N := 1) (tm := fun _ => (Term.string "UrnHeap$Kind" 79)) (len := [(skl_.getD 6 []).length]) (byt := [(skl_.getD 6 []).map iI]) (A := (fun q => s.heap.size ≤ q)) (fun i hi => by
      obtain rfl : i = 0 := by omega
      decide) (fun _ _ => (hs ((Cond.exactly (Term.string "UrnHeap$Kind" 79) "java/lang/String")) (List.mem_of_getElem? (i := 514) (by decide +kernel)))) (fun _ _ => (hs ((Cond.eq (Term.field (Term.string "UrnHeap$Kind" 79) "java/lang/String" "coder" "B") (Term.int 0))) (List.mem_of_getElem? (i := 515) (by decide +kernel)))) (fun _ _ => (hs ((Cond.arrayOf (Term.field (Term.string "UrnHeap$Kind" 79) "java/lang/String" "value" "[B") FieldType.byte)) (List.mem_of_getElem? (i := 516) (by decide +kernel)))) (fun i hi => by
      obtain rfl : i = 0 := by omega
      exact (hs ((Cond.eq (Term.length (Term.field (Term.string "UrnHeap$Kind" 79) "java/lang/String" "value" "[B")) (Term.int 8))) (List.mem_of_getElem? (i := 517) (by decide +kernel)))) (fun i hi j hj => by
      obtain rfl : i = 0 := by omega
      exact hs _ (List.mem_of_getElem? (i := 518 + j) (of_decide_eq_true (List.all_eq_true.mp hw j (List.mem_range.mpr hj))))) (fun i j hi hj hij => absurd (show i = j by omega) hij) (fun a h => Nat.not_le.mpr h)
  refine ⟨adK 0, adV 0, ⟨fun i hi => ?_, fun i j hi hj _ => by omega⟩, h2 0 (by decide)⟩
  obtain rfl : i = 0 := by omega
  exact h1.1 0 (by decide)
theorem ss_7 {args : Array Value} {s : State} (hs : ∀ w ∈ nf_, w.before args s = true) : ∃ aK aV : Nat, vk_S 1 [(skl_.getD 7 []).length] [(skl_.getD 7 []).map iI] (fun _ => aK) (fun _ => aV) (fun q => s.heap.size ≤ q) s s.heap ∧ (Term.string "UrnHeap$Kind" 82).eval args s none [] s = some (.ref aK) := by
  have hw : (List.range 5).all (fun j => decide (nf_[542 + j]? = some (Cond.eq (Term.elem (Term.field (Term.string "UrnHeap$Kind" 82) "java/lang/String" "value" "[B") (Term.int (Int32.ofNat j))) (Term.int (((skl_.getD 7 []).map iI).getD j 0))))) = true := by decide +kernel
  obtain ⟨adK, adV, h1, h2⟩ := vk_Sof (args := args) (s := s) (N := 1) (tm := fun _ => (Term.string "UrnHeap$Kind" 82)) (len := [(skl_.getD 7 []).length]) (byt := [(skl_.getD 7 []).map iI]) (A := (fun q => s.heap.size ≤ q)) (fun i hi => by
      obtain rfl : i = 0 := by omega
      decide) (fun _ _ => (hs ((Cond.exactly (Term.string "UrnHeap$Kind" 82) "java/lang/String")) (List.mem_of_getElem? (i := 538) (by decide +kernel)))) (fun _ _ => (hs ((Cond.eq (Term.field (Term.string "UrnHeap$Kind" 82) "java/lang/String" "coder" "B") (Term.int 0))) (List.mem_of_getElem? (i := 539) (by decide +kernel)))) (fun _ _ => (hs ((Cond.arrayOf (Term.field (Term.string "UrnHeap$Kind" 82) "java/lang/String" "value" "[B") FieldType.byte)) (List.mem_of_getElem? (i := 540) (by decide +kernel)))) (fun i hi => by
      obtain rfl : i = 0 := by omega
      exact (hs ((Cond.eq (Term.length (Term.field (Term.string "UrnHeap$Kind" 82) "java/lang/String" "value" "[B")) (Term.int 5))) (List.mem_of_getElem? (i := 541) (by decide +kernel)))) (fun i hi j hj => by
      obtain rfl : i = 0 := by omega
      exact hs _ (List.mem_of_getElem? (i := 542 + j) (of_decide_eq_true (List.all_eq_true.mp hw j (List.mem_range.mpr hj))))) (fun i j hi hj hij => absurd (show i = j by omega) hij) (fun a h => Nat.not_le.mpr h)
  refine ⟨adK 0, adV 0, ⟨fun i hi => ?_, fun i j hi hj _ => by omega⟩, h2 0 (by decide)⟩
  obtain rfl : i = 0 := by omega
  exact h1.1 0 (by decide)
theorem ss_8 {args : Array Value} {s : State} (hs : ∀ w ∈ nf_, w.before args s = true) : ∃ aK aV : Nat, vk_S 1 [(skl_.getD 8 []).length] [(skl_.getD 8 []).map iI] (fun _ => aK) (fun _ => aV) (fun q => s.heap.size ≤ q) s s.heap ∧ (Term.string "UrnHeap$Kind" 85).eval args s none [] s = some (.ref aK) := by
  have hw : (List.range 6).all (fun j => decide (nf_[564 + j]? = some (Cond.eq (Term.elem (Term.field (Term.string "UrnHeap$Kind" 85) "java/lang/String" "value" "[B") (Term.int (Int32.ofNat j))) (Term.int (((skl_.getD 8 []).map iI).getD j 0))))) = true := by decide +kernel
  obtain ⟨adK, adV, h1, h2⟩ := vk_Sof (args := args) (s := s) (N := 1) (tm := fun _ => (Term.string "UrnHeap$Kind" 85)) (len := [(skl_.getD 8 []).length]) (byt := [(skl_.getD 8 []).map iI]) (A := (fun q => s.heap.size ≤ q)) (fun i hi => by
      obtain rfl : i = 0 := by omega
      decide) (fun _ _ => (hs ((Cond.exactly (Term.string "UrnHeap$Kind" 85) "java/lang/String")) (List.mem_of_getElem? (i := 560) (by decide +kernel)))) (fun _ _ => (hs ((Cond.eq (Term.field (Term.string "UrnHeap$Kind" 85) "java/lang/String" "coder" "B") (Term.int 0))) (List.mem_of_getElem? (i := 561) (by decide +kernel)))) (fun _ _ => (hs ((Cond.arrayOf (Term.field (Term.string "UrnHeap$Kind" 85) "java/lang/String" "value" "[B") FieldType.byte)) (List.mem_of_getElem? (i := 562) (by decide +kernel)))) (fun i hi => by
      obtain rfl : i = 0 := by omega
      exact (hs ((Cond.eq (Term.length (Term.field (Term.string "UrnHeap$Kind" 85) "java/lang/String" "value" "[B")) (Term.int 6))) (List.mem_of_getElem? (i := 563) (by decide +kernel)))) (fun i hi j hj => by
      obtain rfl : i = 0 := by omega
      exact hs _ (List.mem_of_getElem? (i := 564 + j) (of_decide_eq_true (List.all_eq_true.mp hw j (List.mem_range.mpr hj))))) (fun i j hi hj hij => absurd (show i = j by omega) hij) (fun a h => Nat.not_le.mpr h)
  refine ⟨adK 0, adV 0, ⟨fun i hi => ?_, fun i j hi hj _ => by omega⟩, h2 0 (by decide)⟩
  obtain rfl : i = 0 := by omega
  exact h1.1 0 (by decide)
theorem ss_9 {args : Array Value} {s : State} (hs : ∀ w ∈ nf_, w.before args s = true) : ∃ aK aV : Nat, vk_S 1 [(skl_.getD 9 []).length] [(skl_.getD 9 []).map iI] (fun _ => aK) (fun _ => aV) (fun q => s.heap.size ≤ q) s s.heap ∧ (Term.string "UrnHeap$Kind" 88).eval args s none [] s = some (.ref aK) := by
  have hw : (List.range 4).all (fun j => decide (nf_[588 + j]? = some (Cond.eq (Term.elem (Term.field (Term.string "UrnHeap$Kind" 88) "java/lang/String" "value" "[B") (Term.int (Int32.ofNat j))) (Term.int (((skl_.getD 9 []).map iI).getD j 0))))) = true := by decide +kernel
  obtain ⟨adK, adV, h1, h2⟩ := vk_Sof (args := args) (s := s) (N := 1) (tm := fun _ => (Term.string "UrnHeap$Kind" 88)) (len := [(skl_.getD 9 []).length]) (byt := [(skl_.getD 9 []).map iI]) (A := (fun q => s.heap.size ≤ q)) (fun i hi => by
      obtain rfl : i = 0 := by omega
      decide) (fun _ _ => (hs ((Cond.exactly (Term.string "UrnHeap$Kind" 88) "java/lang/String")) (List.mem_of_getElem? (i := 584) (by decide +kernel)))) (fun _ _ => (hs ((Cond.eq (Term.field (Term.string "UrnHeap$Kind" 88) "java/lang/String" "coder" "B") (Term.int 0))) (List.mem_of_getElem? (i := 585) (by decide +kernel)))) (fun _ _ => (hs ((Cond.arrayOf (Term.field (Term.string "UrnHeap$Kind" 88) "java/lang/String" "value" "[B") FieldType.byte)) (List.mem_of_getElem? (i := 586) (by decide +kernel)))) (fun i hi => by
      obtain rfl : i = 0 := by omega
      exact (hs ((Cond.eq (Term.length (Term.field (Term.string "UrnHeap$Kind" 88) "java/lang/String" "value" "[B")) (Term.int 4))) (List.mem_of_getElem? (i := 587) (by decide +kernel)))) (fun i hi j hj => by
      obtain rfl : i = 0 := by omega
      exact hs _ (List.mem_of_getElem? (i := 588 + j) (of_decide_eq_true (List.all_eq_true.mp hw j (List.mem_range.mpr hj))))) (fun i j hi hj hij => absurd (show i = j by omega) hij) (fun a h => Nat.not_le.mpr h)
  refine ⟨adK 0, adV 0, ⟨fun i hi => ?_, fun i j hi hj _ => by omega⟩, h2 0 (by decide)⟩
  obtain rfl : i = 0 := by omega
  exact h1.1 0 (by decide)
theorem ss_10 {args : Array Value} {s : State} (hs : ∀ w ∈ nf_, w.before args s = true) : ∃ aK aV : Nat, vk_S 1 [(skl_.getD 10 []).length] [(skl_.getD 10 []).map iI] (fun _ => aK) (fun _ => aV) (fun q => s.heap.size ≤ q) s s.heap ∧ (Term.string "UrnHeapLaw" 105).eval args s none [] s = some (.ref aK) := by
  have hw : (List.range 4).all (fun j => decide (nf_[346 + j]? = some (Cond.eq (Term.elem (Term.field (Term.string "UrnHeapLaw" 105) "java/lang/String" "value" "[B") (Term.int (Int32.ofNat j))) (Term.int (((skl_.getD 10 []).map iI).getD j 0))))) = true := by decide +kernel
  obtain ⟨adK, adV, h1, h2⟩ := vk_Sof (args := args) (s := s) (N := 1) (tm := fun _ => (Term.string "UrnHeapLaw" 105)) (len := [(skl_.getD 10 []).length]) (byt := [(skl_.getD 10 []).map iI]) (A := (fun q => s.heap.size ≤ q)) (fun i hi => by
      obtain rfl : i = 0 := by omega
      decide) (fun _ _ => (hs ((Cond.exactly (Term.string "UrnHeapLaw" 105) "java/lang/String")) (List.mem_of_getElem? (i := 342) (by decide +kernel)))) (fun _ _ => (hs ((Cond.eq (Term.field (Term.string "UrnHeapLaw" 105) "java/lang/String" "coder" "B") (Term.int 0))) (List.mem_of_getElem? (i := 343) (by decide +kernel)))) (fun _ _ => (hs ((Cond.arrayOf (Term.field (Term.string "UrnHeapLaw" 105) "java/lang/String" "value" "[B") FieldType.byte)) (List.mem_of_getElem? (i := 344) (by decide +kernel)))) (fun i hi => by
      obtain rfl : i = 0 := by omega
      exact (hs ((Cond.eq (Term.length (Term.field (Term.string "UrnHeapLaw" 105) "java/lang/String" "value" "[B")) (Term.int 4))) (List.mem_of_getElem? (i := 345) (by decide +kernel)))) (fun i hi j hj => by
      obtain rfl : i = 0 := by omega
      exact hs _ (List.mem_of_getElem? (i := 346 + j) (of_decide_eq_true (List.all_eq_true.mp hw j (List.mem_range.mpr hj))))) (fun i j hi hj hij => absurd (show i = j by omega) hij) (fun a h => Nat.not_le.mpr h)
  refine ⟨adK 0, adV 0, ⟨fun i hi => ?_, fun i j hi hj _ => by omega⟩, h2 0 (by decide)⟩
  obtain rfl : i = 0 := by omega
  exact h1.1 0 (by decide)
theorem ss_11 {args : Array Value} {s : State} (hs : ∀ w ∈ nf_, w.before args s = true) : ∃ aK aV : Nat, vk_S 1 [(skl_.getD 11 []).length] [(skl_.getD 11 []).map iI] (fun _ => aK) (fun _ => aV) (fun q => s.heap.size ≤ q) s s.heap ∧ (Term.string "UrnHeapLaw" 113).eval args s none [] s = some (.ref aK) := by
  have hw : (List.range 1).all (fun j => decide (nf_[354 + j]? = some (Cond.eq (Term.elem (Term.field (Term.string "UrnHeapLaw" 113) "java/lang/String" "value" "[B") (Term.int (Int32.ofNat j))) (Term.int (((skl_.getD 11 []).map iI).getD j 0))))) = true := by decide +kernel
  obtain ⟨adK, adV, h1, h2⟩ := vk_Sof (args := args) (s := s) (N := 1) (tm := fun _ => (Term.string "UrnHeapLaw" 113)) (len := [(skl_.getD 11 []).length]) (byt := [(skl_.getD 11 []).map iI]) (A := (fun q => s.heap.size ≤ q)) (fun i hi => by
      obtain rfl : i = 0 := by omega
      decide) (fun _ _ => (hs ((Cond.exactly (Term.string "UrnHeapLaw" 113) "java/lang/String")) (List.mem_of_getElem? (i := 350) (by decide +kernel)))) (fun _ _ => (hs ((Cond.eq (Term.field (Term.string "UrnHeapLaw" 113) "java/lang/String" "coder" "B") (Term.int 0))) (List.mem_of_getElem? (i := 351) (by decide +kernel)))) (fun _ _ => (hs ((Cond.arrayOf (Term.field (Term.string "UrnHeapLaw" 113) "java/lang/String" "value" "[B") FieldType.byte)) (List.mem_of_getElem? (i := 352) (by decide +kernel)))) (fun i hi => by
      obtain rfl : i = 0 := by omega
      exact (hs ((Cond.eq (Term.length (Term.field (Term.string "UrnHeapLaw" 113) "java/lang/String" "value" "[B")) (Term.int 1))) (List.mem_of_getElem? (i := 353) (by decide +kernel)))) (fun i hi j hj => by
      obtain rfl : i = 0 := by omega
      exact hs _ (List.mem_of_getElem? (i := 354 + j) (of_decide_eq_true (List.all_eq_true.mp hw j (List.mem_range.mpr hj))))) (fun i j hi hj hij => absurd (show i = j by omega) hij) (fun a h => Nat.not_le.mpr h)
  refine ⟨adK 0, adV 0, ⟨fun i hi => ?_, fun i j hi hj _ => by omega⟩, h2 0 (by decide)⟩
  obtain rfl : i = 0 := by omega
  exact h1.1 0 (by decide)
theorem ss_12 {args : Array Value} {s : State} (hs : ∀ w ∈ nf_, w.before args s = true) : ∃ aK aV : Nat, vk_S 1 [(skl_.getD 12 []).length] [(skl_.getD 12 []).map iI] (fun _ => aK) (fun _ => aV) (fun q => s.heap.size ≤ q) s s.heap ∧ (Term.string "UrnHeapLaw" 115).eval args s none [] s = some (.ref aK) := by
  have hw : (List.range 1).all (fun j => decide (nf_[360 + j]? = some (Cond.eq (Term.elem (Term.field (Term.string "UrnHeapLaw" 115) "java/lang/String" "value" "[B") (Term.int (Int32.ofNat j))) (Term.int (((skl_.getD 12 []).map iI).getD j 0))))) = true := by decide +kernel
  obtain ⟨adK, adV, h1, h2⟩ := vk_Sof (args := args) (s := s) (N := 1) (tm := fun _ => (Term.string "UrnHeapLaw" 115)) (len := [(skl_.getD 12 []).length]) (byt := [(skl_.getD 12 []).map iI]) (A := (fun q => s.heap.size ≤ q)) (fun i hi => by
      obtain rfl : i = 0 := by omega
      decide) (fun _ _ => (hs ((Cond.exactly (Term.string "UrnHeapLaw" 115) "java/lang/String")) (List.mem_of_getElem? (i := 356) (by decide +kernel)))) (fun _ _ => (hs ((Cond.eq (Term.field (Term.string "UrnHeapLaw" 115) "java/lang/String" "coder" "B") (Term.int 0))) (List.mem_of_getElem? (i := 357) (by decide +kernel)))) (fun _ _ => (hs ((Cond.arrayOf (Term.field (Term.string "UrnHeapLaw" 115) "java/lang/String" "value" "[B") FieldType.byte)) (List.mem_of_getElem? (i := 358) (by decide +kernel)))) (fun i hi => by
      obtain rfl : i = 0 := by omega
      exact (hs ((Cond.eq (Term.length (Term.field (Term.string "UrnHeapLaw" 115) "java/lang/String" "value" "[B")) (Term.int 1))) (List.mem_of_getElem? (i := 359) (by decide +kernel)))) (fun i hi j hj => by
      obtain rfl : i = 0 := by omega
      exact hs _ (List.mem_of_getElem? (i := 360 + j) (of_decide_eq_true (List.all_eq_true.mp hw j (List.mem_range.mpr hj))))) (fun i j hi hj hij => absurd (show i = j by omega) hij) (fun a h => Nat.not_le.mpr h)
  refine ⟨adK 0, adV 0, ⟨fun i hi => ?_, fun i j hi hj _ => by omega⟩, h2 0 (by decide)⟩
  obtain rfl : i = 0 := by omega
  exact h1.1 0 (by decide)
theorem ss_13 {args : Array Value} {s : State} (hs : ∀ w ∈ nf_, w.before args s = true) : ∃ aK aV : Nat, vk_S 1 [(skl_.getD 13 []).length] [(skl_.getD 13 []).map iI] (fun _ => aK) (fun _ => aV) (fun q => s.heap.size ≤ q) s s.heap ∧ (Term.string "UrnHeapLaw" 117).eval args s none [] s = some (.ref aK) := by
  have hw : (List.range 7).all (fun j => decide (nf_[367 + j]? = some (Cond.eq (Term.elem (Term.field (Term.string "UrnHeapLaw" 117) "java/lang/String" "value" "[B") (Term.int (Int32.ofNat j))) (Term.int (((skl_.getD 13 []).map iI).getD j 0))))) = true := by decide +kernel
  obtain ⟨adK, adV, h1, h2⟩ := vk_Sof (args := args) (s := s) (N := 1) (tm := fun _ => (Term.string "UrnHeapLaw" 117)) (len := [(skl_.getD 13 []).length]) (byt := [(skl_.getD 13 []).map iI]) (A := (fun q => s.heap.size ≤ q)) (fun i hi => by
      obtain rfl : i = 0 := by omega
      decide) (fun _ _ => (hs ((Cond.exactly (Term.string "UrnHeapLaw" 117) "java/lang/String")) (List.mem_of_getElem? (i := 363) (by decide +kernel)))) (fun _ _ => (hs ((Cond.eq (Term.field (Term.string "UrnHeapLaw" 117) "java/lang/String" "coder" "B") (Term.int 0))) (List.mem_of_getElem? (i := 364) (by decide +kernel)))) (fun _ _ => (hs ((Cond.arrayOf (Term.field (Term.string "UrnHeapLaw" 117) "java/lang/String" "value" "[B") FieldType.byte)) (List.mem_of_getElem? (i := 365) (by decide +kernel)))) (fun i hi => by
      obtain rfl : i = 0 := by omega
      exact (hs ((Cond.eq (Term.length (Term.field (Term.string "UrnHeapLaw" 117) "java/lang/String" "value" "[B")) (Term.int 7))) (List.mem_of_getElem? (i := 366) (by decide +kernel)))) (fun i hi j hj => by
      obtain rfl : i = 0 := by omega
      exact hs _ (List.mem_of_getElem? (i := 367 + j) (of_decide_eq_true (List.all_eq_true.mp hw j (List.mem_range.mpr hj))))) (fun i j hi hj hij => absurd (show i = j by omega) hij) (fun a h => Nat.not_le.mpr h)
  refine ⟨adK 0, adV 0, ⟨fun i hi => ?_, fun i j hi hj _ => by omega⟩, h2 0 (by decide)⟩
  obtain rfl : i = 0 := by omega
  exact h1.1 0 (by decide)
theorem ss_14 {args : Array Value} {s : State} (hs : ∀ w ∈ nf_, w.before args s = true) : ∃ aK aV : Nat, vk_S 1 [(skl_.getD 14 []).length] [(skl_.getD 14 []).map iI] (fun _ => aK) (fun _ => aV) (fun q => s.heap.size ≤ q) s s.heap ∧ (Term.string "UrnHeapLaw" 119).eval args s none [] s = some (.ref aK) := by
  have hw : (List.range 5).all (fun j => decide (nf_[381 + j]? = some (Cond.eq (Term.elem (Term.field (Term.string "UrnHeapLaw" 119) "java/lang/String" "value" "[B") (Term.int (Int32.ofNat j))) (Term.int (((skl_.getD 14 []).map iI).getD j 0))))) = true := by decide +kernel
  obtain ⟨adK, adV, h1, h2⟩ := vk_Sof (args := args) (s := s) (N := 1) (tm := fun _ => (Term.string "UrnHeapLaw" 119)) (len := [(skl_.getD 14 []).length]) (byt := [(skl_.getD 14 []).map iI]) (A := (fun q => s.heap.size ≤ q)) (fun i hi => by
      obtain rfl : i = 0 := by omega
      decide) (fun _ _ => (hs ((Cond.exactly (Term.string "UrnHeapLaw" 119) "java/lang/String")) (List.mem_of_getElem? (i := 377) (by decide +kernel)))) (fun _ _ => (hs ((Cond.eq (Term.field (Term.string "UrnHeapLaw" 119) "java/lang/String" "coder" "B") (Term.int 0))) (List.mem_of_getElem? (i := 378) (by decide +kernel)))) (fun _ _ => (hs ((Cond.arrayOf (Term.field (Term.string "UrnHeapLaw" 119) "java/lang/String" "value" "[B") FieldType.byte)) (List.mem_of_getElem? (i := 379) (by decide +kernel)))) (fun i hi => by
      obtain rfl : i = 0 := by omega
      exact (hs ((Cond.eq (Term.length (Term.field (Term.string "UrnHeapLaw" 119) "java/lang/String" "value" "[B")) (Term.int 5))) (List.mem_of_getElem? (i := 380) (by decide +kernel)))) (fun i hi j hj => by
      obtain rfl : i = 0 := by omega
      exact hs _ (List.mem_of_getElem? (i := 381 + j) (of_decide_eq_true (List.all_eq_true.mp hw j (List.mem_range.mpr hj))))) (fun i j hi hj hij => absurd (show i = j by omega) hij) (fun a h => Nat.not_le.mpr h)
  refine ⟨adK 0, adV 0, ⟨fun i hi => ?_, fun i j hi hj _ => by omega⟩, h2 0 (by decide)⟩
  obtain rfl : i = 0 := by omega
  exact h1.1 0 (by decide)
theorem ss_15 {args : Array Value} {s : State} (hs : ∀ w ∈ nf_, w.before args s = true) : ∃ aK aV : Nat, vk_S 1 [(skl_.getD 15 []).length] [(skl_.getD 15 []).map iI] (fun _ => aK) (fun _ => aV) (fun q => s.heap.size ≤ q) s s.heap ∧ (Term.string "UrnHeapLaw" 121).eval args s none [] s = some (.ref aK) := by
  have hw : (List.range 1).all (fun j => decide (nf_[394 + j]? = some (Cond.eq (Term.elem (Term.field (Term.string "UrnHeapLaw" 121) "java/lang/String" "value" "[B") (Term.int (Int32.ofNat j))) (Term.int (((skl_.getD 15 []).map iI).getD j 0))))) = true := by decide +kernel
  obtain ⟨adK, adV, h1, h2⟩ := vk_Sof (args := args) (s := s) (N := 1) (tm := fun _ => (Term.string "UrnHeapLaw" 121)) (len := [(skl_.getD 15 []).length]) (byt := [(skl_.getD 15 []).map iI]) (A := (fun q => s.heap.size ≤ q)) (fun i hi => by
      obtain rfl : i = 0 := by omega
      decide) (fun _ _ => (hs ((Cond.exactly (Term.string "UrnHeapLaw" 121) "java/lang/String")) (List.mem_of_getElem? (i := 390) (by decide +kernel)))) (fun _ _ => (hs ((Cond.eq (Term.field (Term.string "UrnHeapLaw" 121) "java/lang/String" "coder" "B") (Term.int 0))) (List.mem_of_getElem? (i := 391) (by decide +kernel)))) (fun _ _ => (hs ((Cond.arrayOf (Term.field (Term.string "UrnHeapLaw" 121) "java/lang/String" "value" "[B") FieldType.byte)) (List.mem_of_getElem? (i := 392) (by decide +kernel)))) (fun i hi => by
      obtain rfl : i = 0 := by omega
      exact (hs ((Cond.eq (Term.length (Term.field (Term.string "UrnHeapLaw" 121) "java/lang/String" "value" "[B")) (Term.int 1))) (List.mem_of_getElem? (i := 393) (by decide +kernel)))) (fun i hi j hj => by
      obtain rfl : i = 0 := by omega
      exact hs _ (List.mem_of_getElem? (i := 394 + j) (of_decide_eq_true (List.all_eq_true.mp hw j (List.mem_range.mpr hj))))) (fun i j hi hj hij => absurd (show i = j by omega) hij) (fun a h => Nat.not_le.mpr h)
  refine ⟨adK 0, adV 0, ⟨fun i hi => ?_, fun i j hi hj _ => by omega⟩, h2 0 (by decide)⟩
  obtain rfl : i = 0 := by omega
  exact h1.1 0 (by decide)
theorem se_K0 {args : Array Value} {s : State} (hs : ∀ w ∈ nf_, w.before args s = true) {aS : Nat} (hS : (Term.string "UrnHeap$Kind" 58).eval args s none [] s = some (.ref aS)) : ∃ a : Nat, (va_O "UrnHeap$Kind" a (fun q => s.heap.size ≤ q) s s.heap ∧ va_OF "java/lang/Enum" "ordinal" "I" (.int (iI (0 : Nat))) a (fun q => s.heap.size ≤ q) s s.heap ∧ va_OF "UrnHeap$Kind" "form" "Ljava/lang/String;" (.ref aS) a (fun q => s.heap.size ≤ q) s s.heap) ∧ (Term.static "UrnHeap$Kind" "URN" "LUrnHeap$Kind;").eval args s none [] s = some (.ref a) := by
  have hex := (hs ((Cond.exactly (Term.static "UrnHeap$Kind" "URN" "LUrnHeap$Kind;") "UrnHeap$Kind")) (List.mem_of_getElem? (i := 243) (by decide +kernel)))
  obtain ⟨a, c, cA, kA, q1, q2, q3, q4, q5, q6, -⟩ := Cond.exactly_spec (args := args) (first := s) (o := none) (s := s) (idx := []) (t := (Term.static "UrnHeap$Kind" "URN" "LUrnHeap$Kind;")) (cls := "UrnHeap$Kind") hex
  exact ⟨a, ⟨va_Oof hex q1 (fun a h => Nat.not_le.mpr h), vk_OFof q1 (va_eqt (hs ((Cond.eq (Term.field (Term.static "UrnHeap$Kind" "URN" "LUrnHeap$Kind;") "java/lang/Enum" "ordinal" "I") (Term.int 0))) (List.mem_of_getElem? (i := 244) (by decide +kernel)))) (fun a h => Nat.not_le.mpr h), vk_OFof q1 (va_eqtt (hs ((Cond.eq (Term.field (Term.static "UrnHeap$Kind" "URN" "LUrnHeap$Kind;") "UrnHeap$Kind" "form" "Ljava/lang/String;") (Term.string "UrnHeap$Kind" 58))) (List.mem_of_getElem? (i := 245) (by decide +kernel))) hS) (fun a h => Nat.not_le.mpr h)⟩, q1⟩
theorem se_K1 {args : Array Value} {s : State} (hs : ∀ w ∈ nf_, w.before args s = true) {aS : Nat} (hS : (Term.string "UrnHeap$Kind" 64).eval args s none [] s = some (.ref aS)) : ∃ a : Nat, (va_O "UrnHeap$Kind" a (fun q => s.heap.size ≤ q) s s.heap ∧ va_OF "java/lang/Enum" "ordinal" "I" (.int (iI (1 : Nat))) a (fun q => s.heap.size ≤ q) s s.heap ∧ va_OF "UrnHeap$Kind" "form" "Ljava/lang/String;" (.ref aS) a (fun q => s.heap.size ≤ q) s s.heap) ∧ (Term.static "UrnHeap$Kind" "URN_WITH_RITE" "LUrnHeap$Kind;").eval args s none [] s = some (.ref a) := by
  have hex := (hs ((Cond.exactly (Term.static "UrnHeap$Kind" "URN_WITH_RITE" "LUrnHeap$Kind;") "UrnHeap$Kind")) (List.mem_of_getElem? (i := 246) (by decide +kernel)))
  obtain ⟨a, c, cA, kA, q1, q2, q3, q4, q5, q6, -⟩ := Cond.exactly_spec (args := args) (first := s) (o := none) (s := s) (idx := []) (t := (Term.static "UrnHeap$Kind" "URN_WITH_RITE" "LUrnHeap$Kind;")) (cls := "UrnHeap$Kind") hex
  exact ⟨a, ⟨va_Oof hex q1 (fun a h => Nat.not_le.mpr h), vk_OFof q1 (va_eqt (hs ((Cond.eq (Term.field (Term.static "UrnHeap$Kind" "URN_WITH_RITE" "LUrnHeap$Kind;") "java/lang/Enum" "ordinal" "I") (Term.int 1))) (List.mem_of_getElem? (i := 247) (by decide +kernel)))) (fun a h => Nat.not_le.mpr h), vk_OFof q1 (va_eqtt (hs ((Cond.eq (Term.field (Term.static "UrnHeap$Kind" "URN_WITH_RITE" "LUrnHeap$Kind;") "UrnHeap$Kind" "form" "Ljava/lang/String;") (Term.string "UrnHeap$Kind" 64))) (List.mem_of_getElem? (i := 248) (by decide +kernel))) hS) (fun a h => Nat.not_le.mpr h)⟩, q1⟩
theorem se_K2 {args : Array Value} {s : State} (hs : ∀ w ∈ nf_, w.before args s = true) {aS : Nat} (hS : (Term.string "UrnHeap$Kind" 67).eval args s none [] s = some (.ref aS)) : ∃ a : Nat, (va_O "UrnHeap$Kind" a (fun q => s.heap.size ≤ q) s s.heap ∧ va_OF "java/lang/Enum" "ordinal" "I" (.int (iI (2 : Nat))) a (fun q => s.heap.size ≤ q) s s.heap ∧ va_OF "UrnHeap$Kind" "form" "Ljava/lang/String;" (.ref aS) a (fun q => s.heap.size ≤ q) s s.heap) ∧ (Term.static "UrnHeap$Kind" "TIE" "LUrnHeap$Kind;").eval args s none [] s = some (.ref a) := by
  have hex := (hs ((Cond.exactly (Term.static "UrnHeap$Kind" "TIE" "LUrnHeap$Kind;") "UrnHeap$Kind")) (List.mem_of_getElem? (i := 250) (by decide +kernel)))
  obtain ⟨a, c, cA, kA, q1, q2, q3, q4, q5, q6, -⟩ := Cond.exactly_spec (args := args) (first := s) (o := none) (s := s) (idx := []) (t := (Term.static "UrnHeap$Kind" "TIE" "LUrnHeap$Kind;")) (cls := "UrnHeap$Kind") hex
  exact ⟨a, ⟨va_Oof hex q1 (fun a h => Nat.not_le.mpr h), vk_OFof q1 (va_eqt (hs ((Cond.eq (Term.field (Term.static "UrnHeap$Kind" "TIE" "LUrnHeap$Kind;") "java/lang/Enum" "ordinal" "I") (Term.int 2))) (List.mem_of_getElem? (i := 251) (by decide +kernel)))) (fun a h => Nat.not_le.mpr h), vk_OFof q1 (va_eqtt (hs ((Cond.eq (Term.field (Term.static "UrnHeap$Kind" "TIE" "LUrnHeap$Kind;") "UrnHeap$Kind" "form" "Ljava/lang/String;") (Term.string "UrnHeap$Kind" 67))) (List.mem_of_getElem? (i := 252) (by decide +kernel))) hS) (fun a h => Nat.not_le.mpr h)⟩, q1⟩
theorem se_K3 {args : Array Value} {s : State} (hs : ∀ w ∈ nf_, w.before args s = true) {aS : Nat} (hS : (Term.string "UrnHeap$Kind" 70).eval args s none [] s = some (.ref aS)) : ∃ a : Nat, (va_O "UrnHeap$Kind" a (fun q => s.heap.size ≤ q) s s.heap ∧ va_OF "java/lang/Enum" "ordinal" "I" (.int (iI (3 : Nat))) a (fun q => s.heap.size ≤ q) s s.heap ∧ va_OF "UrnHeap$Kind" "form" "Ljava/lang/String;" (.ref aS) a (fun q => s.heap.size ≤ q) s s.heap) ∧ (Term.static "UrnHeap$Kind" "UNTIE" "LUrnHeap$Kind;").eval args s none [] s = some (.ref a) := by
  have hex := (hs ((Cond.exactly (Term.static "UrnHeap$Kind" "UNTIE" "LUrnHeap$Kind;") "UrnHeap$Kind")) (List.mem_of_getElem? (i := 255) (by decide +kernel)))
  obtain ⟨a, c, cA, kA, q1, q2, q3, q4, q5, q6, -⟩ := Cond.exactly_spec (args := args) (first := s) (o := none) (s := s) (idx := []) (t := (Term.static "UrnHeap$Kind" "UNTIE" "LUrnHeap$Kind;")) (cls := "UrnHeap$Kind") hex
  exact ⟨a, ⟨va_Oof hex q1 (fun a h => Nat.not_le.mpr h), vk_OFof q1 (va_eqt (hs ((Cond.eq (Term.field (Term.static "UrnHeap$Kind" "UNTIE" "LUrnHeap$Kind;") "java/lang/Enum" "ordinal" "I") (Term.int 3))) (List.mem_of_getElem? (i := 256) (by decide +kernel)))) (fun a h => Nat.not_le.mpr h), vk_OFof q1 (va_eqtt (hs ((Cond.eq (Term.field (Term.static "UrnHeap$Kind" "UNTIE" "LUrnHeap$Kind;") "UrnHeap$Kind" "form" "Ljava/lang/String;") (Term.string "UrnHeap$Kind" 70))) (List.mem_of_getElem? (i := 257) (by decide +kernel))) hS) (fun a h => Nat.not_le.mpr h)⟩, q1⟩
theorem se_K4 {args : Array Value} {s : State} (hs : ∀ w ∈ nf_, w.before args s = true) {aS : Nat} (hS : (Term.string "UrnHeap$Kind" 73).eval args s none [] s = some (.ref aS)) : ∃ a : Nat, (va_O "UrnHeap$Kind" a (fun q => s.heap.size ≤ q) s s.heap ∧ va_OF "java/lang/Enum" "ordinal" "I" (.int (iI (4 : Nat))) a (fun q => s.heap.size ≤ q) s s.heap ∧ va_OF "UrnHeap$Kind" "form" "Ljava/lang/String;" (.ref aS) a (fun q => s.heap.size ≤ q) s s.heap) ∧ (Term.static "UrnHeap$Kind" "NAME" "LUrnHeap$Kind;").eval args s none [] s = some (.ref a) := by
  have hex := (hs ((Cond.exactly (Term.static "UrnHeap$Kind" "NAME" "LUrnHeap$Kind;") "UrnHeap$Kind")) (List.mem_of_getElem? (i := 261) (by decide +kernel)))
  obtain ⟨a, c, cA, kA, q1, q2, q3, q4, q5, q6, -⟩ := Cond.exactly_spec (args := args) (first := s) (o := none) (s := s) (idx := []) (t := (Term.static "UrnHeap$Kind" "NAME" "LUrnHeap$Kind;")) (cls := "UrnHeap$Kind") hex
  exact ⟨a, ⟨va_Oof hex q1 (fun a h => Nat.not_le.mpr h), vk_OFof q1 (va_eqt (hs ((Cond.eq (Term.field (Term.static "UrnHeap$Kind" "NAME" "LUrnHeap$Kind;") "java/lang/Enum" "ordinal" "I") (Term.int 4))) (List.mem_of_getElem? (i := 262) (by decide +kernel)))) (fun a h => Nat.not_le.mpr h), vk_OFof q1 (va_eqtt (hs ((Cond.eq (Term.field (Term.static "UrnHeap$Kind" "NAME" "LUrnHeap$Kind;") "UrnHeap$Kind" "form" "Ljava/lang/String;") (Term.string "UrnHeap$Kind" 73))) (List.mem_of_getElem? (i := 263) (by decide +kernel))) hS) (fun a h => Nat.not_le.mpr h)⟩, q1⟩
theorem se_K5 {args : Array Value} {s : State} (hs : ∀ w ∈ nf_, w.before args s = true) {aS : Nat} (hS : (Term.string "UrnHeap$Kind" 76).eval args s none [] s = some (.ref aS)) : ∃ a : Nat, (va_O "UrnHeap$Kind" a (fun q => s.heap.size ≤ q) s s.heap ∧ va_OF "java/lang/Enum" "ordinal" "I" (.int (iI (5 : Nat))) a (fun q => s.heap.size ≤ q) s s.heap ∧ va_OF "UrnHeap$Kind" "form" "Ljava/lang/String;" (.ref aS) a (fun q => s.heap.size ≤ q) s s.heap) ∧ (Term.static "UrnHeap$Kind" "DROP" "LUrnHeap$Kind;").eval args s none [] s = some (.ref a) := by
  have hex := (hs ((Cond.exactly (Term.static "UrnHeap$Kind" "DROP" "LUrnHeap$Kind;") "UrnHeap$Kind")) (List.mem_of_getElem? (i := 268) (by decide +kernel)))
  obtain ⟨a, c, cA, kA, q1, q2, q3, q4, q5, q6, -⟩ := Cond.exactly_spec (args := args) (first := s) (o := none) (s := s) (idx := []) (t := (Term.static "UrnHeap$Kind" "DROP" "LUrnHeap$Kind;")) (cls := "UrnHeap$Kind") hex
  exact ⟨a, ⟨va_Oof hex q1 (fun a h => Nat.not_le.mpr h), vk_OFof q1 (va_eqt (hs ((Cond.eq (Term.field (Term.static "UrnHeap$Kind" "DROP" "LUrnHeap$Kind;") "java/lang/Enum" "ordinal" "I") (Term.int 5))) (List.mem_of_getElem? (i := 269) (by decide +kernel)))) (fun a h => Nat.not_le.mpr h), vk_OFof q1 (va_eqtt (hs ((Cond.eq (Term.field (Term.static "UrnHeap$Kind" "DROP" "LUrnHeap$Kind;") "UrnHeap$Kind" "form" "Ljava/lang/String;") (Term.string "UrnHeap$Kind" 76))) (List.mem_of_getElem? (i := 270) (by decide +kernel))) hS) (fun a h => Nat.not_le.mpr h)⟩, q1⟩
theorem se_K6 {args : Array Value} {s : State} (hs : ∀ w ∈ nf_, w.before args s = true) {aS : Nat} (hS : (Term.string "UrnHeap$Kind" 79).eval args s none [] s = some (.ref aS)) : ∃ a : Nat, (va_O "UrnHeap$Kind" a (fun q => s.heap.size ≤ q) s s.heap ∧ va_OF "java/lang/Enum" "ordinal" "I" (.int (iI (6 : Nat))) a (fun q => s.heap.size ≤ q) s s.heap ∧ va_OF "UrnHeap$Kind" "form" "Ljava/lang/String;" (.ref aS) a (fun q => s.heap.size ≤ q) s s.heap) ∧ (Term.static "UrnHeap$Kind" "WEAK" "LUrnHeap$Kind;").eval args s none [] s = some (.ref a) := by
  have hex := (hs ((Cond.exactly (Term.static "UrnHeap$Kind" "WEAK" "LUrnHeap$Kind;") "UrnHeap$Kind")) (List.mem_of_getElem? (i := 276) (by decide +kernel)))
  obtain ⟨a, c, cA, kA, q1, q2, q3, q4, q5, q6, -⟩ := Cond.exactly_spec (args := args) (first := s) (o := none) (s := s) (idx := []) (t := (Term.static "UrnHeap$Kind" "WEAK" "LUrnHeap$Kind;")) (cls := "UrnHeap$Kind") hex
  exact ⟨a, ⟨va_Oof hex q1 (fun a h => Nat.not_le.mpr h), vk_OFof q1 (va_eqt (hs ((Cond.eq (Term.field (Term.static "UrnHeap$Kind" "WEAK" "LUrnHeap$Kind;") "java/lang/Enum" "ordinal" "I") (Term.int 6))) (List.mem_of_getElem? (i := 277) (by decide +kernel)))) (fun a h => Nat.not_le.mpr h), vk_OFof q1 (va_eqtt (hs ((Cond.eq (Term.field (Term.static "UrnHeap$Kind" "WEAK" "LUrnHeap$Kind;") "UrnHeap$Kind" "form" "Ljava/lang/String;") (Term.string "UrnHeap$Kind" 79))) (List.mem_of_getElem? (i := 278) (by decide +kernel))) hS) (fun a h => Nat.not_le.mpr h)⟩, q1⟩
theorem se_K7 {args : Array Value} {s : State} (hs : ∀ w ∈ nf_, w.before args s = true) {aS : Nat} (hS : (Term.string "UrnHeap$Kind" 82).eval args s none [] s = some (.ref aS)) : ∃ a : Nat, (va_O "UrnHeap$Kind" a (fun q => s.heap.size ≤ q) s s.heap ∧ va_OF "java/lang/Enum" "ordinal" "I" (.int (iI (7 : Nat))) a (fun q => s.heap.size ≤ q) s s.heap ∧ va_OF "UrnHeap$Kind" "form" "Ljava/lang/String;" (.ref aS) a (fun q => s.heap.size ≤ q) s s.heap) ∧ (Term.static "UrnHeap$Kind" "ROUND" "LUrnHeap$Kind;").eval args s none [] s = some (.ref a) := by
  have hex := (hs ((Cond.exactly (Term.static "UrnHeap$Kind" "ROUND" "LUrnHeap$Kind;") "UrnHeap$Kind")) (List.mem_of_getElem? (i := 285) (by decide +kernel)))
  obtain ⟨a, c, cA, kA, q1, q2, q3, q4, q5, q6, -⟩ := Cond.exactly_spec (args := args) (first := s) (o := none) (s := s) (idx := []) (t := (Term.static "UrnHeap$Kind" "ROUND" "LUrnHeap$Kind;")) (cls := "UrnHeap$Kind") hex
  exact ⟨a, ⟨va_Oof hex q1 (fun a h => Nat.not_le.mpr h), vk_OFof q1 (va_eqt (hs ((Cond.eq (Term.field (Term.static "UrnHeap$Kind" "ROUND" "LUrnHeap$Kind;") "java/lang/Enum" "ordinal" "I") (Term.int 7))) (List.mem_of_getElem? (i := 286) (by decide +kernel)))) (fun a h => Nat.not_le.mpr h), vk_OFof q1 (va_eqtt (hs ((Cond.eq (Term.field (Term.static "UrnHeap$Kind" "ROUND" "LUrnHeap$Kind;") "UrnHeap$Kind" "form" "Ljava/lang/String;") (Term.string "UrnHeap$Kind" 82))) (List.mem_of_getElem? (i := 287) (by decide +kernel))) hS) (fun a h => Nat.not_le.mpr h)⟩, q1⟩
theorem se_K8 {args : Array Value} {s : State} (hs : ∀ w ∈ nf_, w.before args s = true) {aS : Nat} (hS : (Term.string "UrnHeap$Kind" 85).eval args s none [] s = some (.ref aS)) : ∃ a : Nat, (va_O "UrnHeap$Kind" a (fun q => s.heap.size ≤ q) s s.heap ∧ va_OF "java/lang/Enum" "ordinal" "I" (.int (iI (8 : Nat))) a (fun q => s.heap.size ≤ q) s s.heap ∧ va_OF "UrnHeap$Kind" "form" "Ljava/lang/String;" (.ref aS) a (fun q => s.heap.size ≤ q) s s.heap) ∧ (Term.static "UrnHeap$Kind" "STEP" "LUrnHeap$Kind;").eval args s none [] s = some (.ref a) := by
  have hex := (hs ((Cond.exactly (Term.static "UrnHeap$Kind" "STEP" "LUrnHeap$Kind;") "UrnHeap$Kind")) (List.mem_of_getElem? (i := 295) (by decide +kernel)))
  obtain ⟨a, c, cA, kA, q1, q2, q3, q4, q5, q6, -⟩ := Cond.exactly_spec (args := args) (first := s) (o := none) (s := s) (idx := []) (t := (Term.static "UrnHeap$Kind" "STEP" "LUrnHeap$Kind;")) (cls := "UrnHeap$Kind") hex
  exact ⟨a, ⟨va_Oof hex q1 (fun a h => Nat.not_le.mpr h), vk_OFof q1 (va_eqt (hs ((Cond.eq (Term.field (Term.static "UrnHeap$Kind" "STEP" "LUrnHeap$Kind;") "java/lang/Enum" "ordinal" "I") (Term.int 8))) (List.mem_of_getElem? (i := 296) (by decide +kernel)))) (fun a h => Nat.not_le.mpr h), vk_OFof q1 (va_eqtt (hs ((Cond.eq (Term.field (Term.static "UrnHeap$Kind" "STEP" "LUrnHeap$Kind;") "UrnHeap$Kind" "form" "Ljava/lang/String;") (Term.string "UrnHeap$Kind" 85))) (List.mem_of_getElem? (i := 297) (by decide +kernel))) hS) (fun a h => Nat.not_le.mpr h)⟩, q1⟩
theorem se_K9 {args : Array Value} {s : State} (hs : ∀ w ∈ nf_, w.before args s = true) {aS : Nat} (hS : (Term.string "UrnHeap$Kind" 88).eval args s none [] s = some (.ref aS)) : ∃ a : Nat, (va_O "UrnHeap$Kind" a (fun q => s.heap.size ≤ q) s s.heap ∧ va_OF "java/lang/Enum" "ordinal" "I" (.int (iI (9 : Nat))) a (fun q => s.heap.size ≤ q) s s.heap ∧ va_OF "UrnHeap$Kind" "form" "Ljava/lang/String;" (.ref aS) a (fun q => s.heap.size ≤ q) s s.heap) ∧ (Term.static "UrnHeap$Kind" "RITE" "LUrnHeap$Kind;").eval args s none [] s = some (.ref a) := by
  have hex := (hs ((Cond.exactly (Term.static "UrnHeap$Kind" "RITE" "LUrnHeap$Kind;") "UrnHeap$Kind")) (List.mem_of_getElem? (i := 306) (by decide +kernel)))
  obtain ⟨a, c, cA, kA, q1, q2, q3, q4, q5, q6, -⟩ := Cond.exactly_spec (args := args) (first := s) (o := none) (s := s) (idx := []) (t := (Term.static "UrnHeap$Kind" "RITE" "LUrnHeap$Kind;")) (cls := "UrnHeap$Kind") hex
  exact ⟨a, ⟨va_Oof hex q1 (fun a h => Nat.not_le.mpr h), vk_OFof q1 (va_eqt (hs ((Cond.eq (Term.field (Term.static "UrnHeap$Kind" "RITE" "LUrnHeap$Kind;") "java/lang/Enum" "ordinal" "I") (Term.int 9))) (List.mem_of_getElem? (i := 307) (by decide +kernel)))) (fun a h => Nat.not_le.mpr h), vk_OFof q1 (va_eqtt (hs ((Cond.eq (Term.field (Term.static "UrnHeap$Kind" "RITE" "LUrnHeap$Kind;") "UrnHeap$Kind" "form" "Ljava/lang/String;") (Term.string "UrnHeap$Kind" 88))) (List.mem_of_getElem? (i := 308) (by decide +kernel))) hS) (fun a h => Nat.not_le.mpr h)⟩, q1⟩
theorem gT_ok {args : Array Value} {s : State} (hts : ∀ w ∈ lw_tbl, w.before args s = true) : ∀ w ∈ gT_, w.before args s = true := by
  have hx : ∀ y : MethodName, y.cls = "java/lang/AbstractStringBuilder" → (y.cls ≠ "java/lang/invoke/MethodHandle" ∧ y.cls ≠ "java/lang/invoke/VarHandle") → Cond.privateMethod y ∈ lw_tbl → Cond.instanceMethod y ∈ lw_tbl → (Cond.selects "java/lang/StringBuilder" y y).before args s = true := fun y hc hy h2 h3 => by
    obtain ⟨c, r, m, hcc, hr, hm, -, km, hkm, hni⟩ := Cond.selects_spec (hts (Cond.selects "java/lang/StringBuilder" yJ5_isLatin1_aae02 yJ5_isLatin1_aae02) (List.mem_of_getElem? (i := 662) (by decide +kernel)))
    obtain ⟨mk, methM, hnamed, hmethM, -, -⟩ := Cond.instanceMethod_spec (hts _ h3)
    have hfound : s.methodFound? y.cls y.name y.desc = some mk := State.methodFound?_of_named hnamed hy
    have hcls : mk.cls = m.cls := Option.some.inj ((findClass_of_methodNamed hnamed).symm.trans (hc.symm ▸ findClass_of_methodNamed hm))
    have hsel : selectMethod {} s.vm c mk = .method mk := selectMethod_private hmethM (Cond.privateMethod_at (hts _ h2) mk methM hnamed hmethM)
    have hk2 : s.vm.classes[mk.cls]? = some km := by rw [hcls]; exact hkm
    simp only [Cond.before, Cond.holds, Cond.value, hcc, hfound, hnamed, hsel, hk2]
    simp; exact hni
  intro w hw
  rcases gT_tbl hw with h | h
  · exact hts w h
  · rcases List.mem_cons.mp h with rfl | h
    · exact hx yJ5_ensureCapacityInternal_d00df rfl ⟨by decide, by decide⟩ (List.mem_of_getElem? (i := 629) (by decide +kernel)) (List.mem_of_getElem? (i := 630) (by decide +kernel))
    · rcases List.mem_cons.mp h with rfl | h
      · exact hx yJ5_newCapacity_0f7a4 rfl ⟨by decide, by decide⟩ (List.mem_of_getElem? (i := 633) (by decide +kernel)) (List.mem_of_getElem? (i := 634) (by decide +kernel))
      · rcases List.mem_cons.mp h with rfl | h
        · exact hx yJ5_inflateIfNeededFor_a7421 rfl ⟨by decide, by decide⟩ (List.mem_of_getElem? (i := 704) (by decide +kernel)) (List.mem_of_getElem? (i := 705) (by decide +kernel))
        · rcases List.mem_cons.mp h with rfl | h
          · exact hx yJ5_putStringAt_47b60 rfl ⟨by decide, by decide⟩ (List.mem_of_getElem? (i := 700) (by decide +kernel)) (List.mem_of_getElem? (i := 701) (by decide +kernel))
          · cases h
theorem vK_start {args : Array Value} {s : State} (hts : ∀ w ∈ lw_tbl, w.before args s = true) : ∃ D : va_G, va_K D vwCl (tys_ D) s := by
  have hgT := gT_ok hts
  obtain ⟨c0, i0, k0⟩ := u_known (C := "java/lang/String") (T := TJ0) (N := 4) (n := 4) hgT in_J0 (hts (Cond.instantiable "java/lang/String" 4) (List.mem_of_getElem? (i := 768) (by decide +kernel)))
  obtain ⟨c1, i1, k1⟩ := u_known (C := "java/lang/StringBuilder") (T := TJ4) (N := 4) (n := 4) hgT in_J4 (hts (Cond.instantiable "java/lang/StringBuilder" 4) (List.mem_of_getElem? (i := 264) (by decide +kernel)))
  obtain ⟨c2, i2, k2⟩ := u_known (C := "UrnHeap$Hands") (T := TX1) (N := 2) (n := 2) hgT in_X1 (hts (Cond.instantiable "UrnHeap$Hands" 2) (List.mem_of_getElem? (i := 190) (by decide +kernel)))
  obtain ⟨c3, i3, k3⟩ := u_known (C := "UrnHeap$Heap") (T := TX2) (N := 17) (n := 17) hgT in_X2 (hts (Cond.instantiable "UrnHeap$Heap" 17) (List.mem_of_getElem? (i := 59) (by decide +kernel)))
  obtain ⟨c4, i4, k4⟩ := u_known (C := "UrnHeap$History") (T := TX3) (N := 6) (n := 6) hgT in_X3 (hts (Cond.instantiable "UrnHeap$History" 6) (List.mem_of_getElem? (i := 229) (by decide +kernel)))
  obtain ⟨c5, i5, k5⟩ := u_known (C := "UrnHeap$Line") (T := TX5) (N := 1) (n := 1) hgT in_X5 (hts (Cond.instantiable "UrnHeap$Line" 1) (List.mem_of_getElem? (i := 329) (by decide +kernel)))
  obtain ⟨c6, i6, k6⟩ := u_known (C := "UrnHeap$Orders") (T := TX6) (N := 8) (n := 8) hgT in_X6 (hts (Cond.instantiable "UrnHeap$Orders" 8) (List.mem_of_getElem? (i := 258) (by decide +kernel)))
  obtain ⟨c7, i7, k7⟩ := u_known (C := "UrnHeap$Paths") (T := TX7) (N := 2) (n := 2) hgT in_X7 (hts (Cond.instantiable "UrnHeap$Paths" 2) (List.mem_of_getElem? (i := 216) (by decide +kernel)))
  obtain ⟨c8, i8, k8⟩ := u_known (C := "UrnHeap$Refusals") (T := TX8) (N := 2) (n := 2) hgT in_X8 (hts (Cond.instantiable "UrnHeap$Refusals" 2) (List.mem_of_getElem? (i := 177) (by decide +kernel)))
  obtain ⟨c9, i9, k9⟩ := u_known (C := "UrnHeap$Row") (T := TX9) (N := 2) (n := 2) hgT in_X9 (hts (Cond.instantiable "UrnHeap$Row" 2) (List.mem_of_getElem? (i := 65) (by decide +kernel)))
  obtain ⟨c10, i10, k10⟩ := u_known (C := "UrnHeap$Sexton") (T := TX10) (N := 2) (n := 2) hgT in_X10 (hts (Cond.instantiable "UrnHeap$Sexton" 2) (List.mem_of_getElem? (i := 203) (by decide +kernel)))
  obtain ⟨c11, i11, k11⟩ := u_known (C := "UrnHeap") (T := TX11) (N := 8) (n := 8) hgT in_X11 (hts (Cond.instantiable "UrnHeap" 8) (List.mem_of_getElem? (i := 51) (by decide +kernel)))
  obtain ⟨b0, g0, m0, r0, p0, s0⟩ := Cond.arrayClass_spec (hts (Cond.arrayClass .int) (List.mem_of_getElem? (i := 79) (by decide +kernel)))
  obtain ⟨b1, g1, m1, r1, p1, s1⟩ := Cond.arrayClass_spec (hts (Cond.arrayClass .byte) (List.mem_of_getElem? (i := 295) (by decide +kernel)))
  obtain ⟨m2, b2, g2, r2, -, p2, s2, t2⟩ := Cond.arrayOver_spec (hts (Cond.arrayOver (.object "UrnHeap$Heap")) (List.mem_of_getElem? (i := 235) (by decide +kernel)))
  obtain ⟨m3, b3, g3, r3, -, p3, s3, t3⟩ := Cond.arrayOver_spec (hts (Cond.arrayOver (.object "UrnHeap$Kind")) (List.mem_of_getElem? (i := 297) (by decide +kernel)))
  obtain ⟨b4, g4, m4, r4, p4, s4⟩ := Cond.arrayClass_spec (hts (Cond.arrayClass .long) (List.mem_of_getElem? (i := 1184) (by decide +kernel)))
  refine ⟨(fun k => if k = 100 then b0 else if k = 101 then b1 else if k = 102 then b2 else if k = 103 then b3 else if k = 104 then b4 else [c0, c1, c2, c3, c4, c5, c6, c7, c8, c9, c10, c11].getD k 0, fun k => [i0, i1, i2, i3, i4, i5, i6, i7, i8, i9, i10, i11].getD k (fun _ => 0)), ⟨fun c q hq => ?_, fun k q hq => ?_⟩⟩
  · match c, hq with
    | 0, hq => cases hq; exact k0
    | 1, hq => cases hq; exact k1
    | 2, hq => cases hq; exact k2
    | 3, hq => cases hq; exact k3
    | 4, hq => cases hq; exact k4
    | 5, hq => cases hq; exact k5
    | 6, hq => cases hq; exact k6
    | 7, hq => cases hq; exact k7
    | 8, hq => cases hq; exact k8
    | 9, hq => cases hq; exact k9
    | 10, hq => cases hq; exact k10
    | 11, hq => cases hq; exact k11
    | c + 12, hq => cases hq
  · match k, hq with
    | 0, hq => cases hq; exact ⟨fun n z => ⟨fun k h => (by cases h), g0, p0, m0, s0⟩, r0⟩
    | 1, hq => cases hq; exact ⟨fun n z => ⟨fun k h => (by cases h), g1, p1, m1, s1⟩, r1⟩
    | 2, hq => cases hq; exact ⟨fun n z => ⟨fun k h => (by cases h), g2, p2, m2, s2⟩, g2, m2, p2, s2, r2, t2⟩
    | 3, hq => cases hq; exact ⟨fun n z => ⟨fun k h => (by cases h), g3, p3, m3, s3⟩, g3, m3, p3, s3, r3, t3⟩
    | 4, hq => cases hq; exact ⟨fun n z => ⟨fun k h => (by cases h), g4, p4, m4, s4⟩, r4⟩
    | k + 5, hq => cases hq
set_option maxHeartbeats 4000000 in
set_option maxRecDepth 100000 in
theorem gk_start {args : Array Value} {s : State} (hs : ∀ w ∈ nf_, w.before args s = true) (hts : ∀ w ∈ lw_tbl, w.before args s = true) (D : va_G) : ∃ G : gp_, G.1 = D ∧ G.2.2 = s.heap.size ∧ gk_ G s s.heap := by
  obtain ⟨K0, V0, hs0, he0⟩ := ss_0 hs
  obtain ⟨K1, V1, hs1, he1⟩ := ss_1 hs
  obtain ⟨K2, V2, hs2, he2⟩ := ss_2 hs
  obtain ⟨K3, V3, hs3, he3⟩ := ss_3 hs
  obtain ⟨K4, V4, hs4, he4⟩ := ss_4 hs
  obtain ⟨K5, V5, hs5, he5⟩ := ss_5 hs
  obtain ⟨K6, V6, hs6, he6⟩ := ss_6 hs
  obtain ⟨K7, V7, hs7, he7⟩ := ss_7 hs
  obtain ⟨K8, V8, hs8, he8⟩ := ss_8 hs
  obtain ⟨K9, V9, hs9, he9⟩ := ss_9 hs
  obtain ⟨K10, V10, hs10, he10⟩ := ss_10 hs
  obtain ⟨K11, V11, hs11, he11⟩ := ss_11 hs
  obtain ⟨K12, V12, hs12, he12⟩ := ss_12 hs
  obtain ⟨K13, V13, hs13, he13⟩ := ss_13 hs
  obtain ⟨K14, V14, hs14, he14⟩ := ss_14 hs
  obtain ⟨K15, V15, hs15, he15⟩ := ss_15 hs
  obtain ⟨E0, hE0, hv0⟩ := se_K0 hs he0
  obtain ⟨E1, hE1, hv1⟩ := se_K1 hs he1
  obtain ⟨E2, hE2, hv2⟩ := se_K2 hs he2
  obtain ⟨E3, hE3, hv3⟩ := se_K3 hs he3
  obtain ⟨E4, hE4, hv4⟩ := se_K4 hs he4
  obtain ⟨E5, hE5, hv5⟩ := se_K5 hs he5
  obtain ⟨E6, hE6, hv6⟩ := se_K6 hs he6
  obtain ⟨E7, hE7, hv7⟩ := se_K7 hs he7
  obtain ⟨E8, hE8, hv8⟩ := se_K8 hs he8
  obtain ⟨E9, hE9, hv9⟩ := se_K9 hs he9
  obtain ⟨aA, hv_aA, hT_aA⟩ := va_Tof (args := args) (tm := (Term.static "UrnHeap$Kind" "ALL" "[LUrnHeap$Kind;")) (ty := .object "UrnHeap$Kind") (N := 10) (f := fun j => .ref ([E0, E1, E2, E3, E4, E5, E6, E7, E8, E9].getD j 0)) (A := (fun q => s.heap.size ≤ q)) (by decide) (hs ((Cond.arrayOf (Term.static "UrnHeap$Kind" "ALL" "[LUrnHeap$Kind;") (FieldType.object "UrnHeap$Kind"))) (List.mem_of_getElem? (i := 217) (by decide +kernel))) (va_eqt (hs ((Cond.eq (Term.length (Term.static "UrnHeap$Kind" "ALL" "[LUrnHeap$Kind;")) (Term.int 10))) (List.mem_of_getElem? (i := 218) (by decide +kernel)))) (fun j hj => by
    match j, hj with
    | 0, _ => exact va_eqtt (hs ((Cond.eq (Term.elem (Term.static "UrnHeap$Kind" "ALL" "[LUrnHeap$Kind;") (Term.int 0)) (Term.static "UrnHeap$Kind" "URN" "LUrnHeap$Kind;"))) (List.mem_of_getElem? (i := 220) (by decide +kernel))) hv0
    | 1, _ => exact va_eqtt (hs ((Cond.eq (Term.elem (Term.static "UrnHeap$Kind" "ALL" "[LUrnHeap$Kind;") (Term.int 1)) (Term.static "UrnHeap$Kind" "URN_WITH_RITE" "LUrnHeap$Kind;"))) (List.mem_of_getElem? (i := 221) (by decide +kernel))) hv1
    | 2, _ => exact va_eqtt (hs ((Cond.eq (Term.elem (Term.static "UrnHeap$Kind" "ALL" "[LUrnHeap$Kind;") (Term.int 2)) (Term.static "UrnHeap$Kind" "TIE" "LUrnHeap$Kind;"))) (List.mem_of_getElem? (i := 222) (by decide +kernel))) hv2
    | 3, _ => exact va_eqtt (hs ((Cond.eq (Term.elem (Term.static "UrnHeap$Kind" "ALL" "[LUrnHeap$Kind;") (Term.int 3)) (Term.static "UrnHeap$Kind" "UNTIE" "LUrnHeap$Kind;"))) (List.mem_of_getElem? (i := 223) (by decide +kernel))) hv3
    | 4, _ => exact va_eqtt (hs ((Cond.eq (Term.elem (Term.static "UrnHeap$Kind" "ALL" "[LUrnHeap$Kind;") (Term.int 4)) (Term.static "UrnHeap$Kind" "NAME" "LUrnHeap$Kind;"))) (List.mem_of_getElem? (i := 224) (by decide +kernel))) hv4
    | 5, _ => exact va_eqtt (hs ((Cond.eq (Term.elem (Term.static "UrnHeap$Kind" "ALL" "[LUrnHeap$Kind;") (Term.int 5)) (Term.static "UrnHeap$Kind" "DROP" "LUrnHeap$Kind;"))) (List.mem_of_getElem? (i := 225) (by decide +kernel))) hv5
    | 6, _ => exact va_eqtt (hs ((Cond.eq (Term.elem (Term.static "UrnHeap$Kind" "ALL" "[LUrnHeap$Kind;") (Term.int 6)) (Term.static "UrnHeap$Kind" "WEAK" "LUrnHeap$Kind;"))) (List.mem_of_getElem? (i := 226) (by decide +kernel))) hv6
    | 7, _ => exact va_eqtt (hs ((Cond.eq (Term.elem (Term.static "UrnHeap$Kind" "ALL" "[LUrnHeap$Kind;") (Term.int 7)) (Term.static "UrnHeap$Kind" "ROUND" "LUrnHeap$Kind;"))) (List.mem_of_getElem? (i := 227) (by decide +kernel))) hv7
    | 8, _ => exact va_eqtt (hs ((Cond.eq (Term.elem (Term.static "UrnHeap$Kind" "ALL" "[LUrnHeap$Kind;") (Term.int 8)) (Term.static "UrnHeap$Kind" "STEP" "LUrnHeap$Kind;"))) (List.mem_of_getElem? (i := 228) (by decide +kernel))) hv8
    | 9, _ => exact va_eqtt (hs ((Cond.eq (Term.elem (Term.static "UrnHeap$Kind" "ALL" "[LUrnHeap$Kind;") (Term.int 9)) (Term.static "UrnHeap$Kind" "RITE" "LUrnHeap$Kind;"))) (List.mem_of_getElem? (i := 229) (by decide +kernel))) hv9
    | n + 10, h => exact absurd h (by omega)) (fun a h => Nat.not_le.mpr h)
  obtain ⟨aS, hv_aS, hT_aS⟩ := va_Tof (args := args) (tm := (Term.static "UrnHeap$1" "$SwitchMap$UrnHeap$Kind" "[I")) (ty := .int) (N := 10) (f := fun j => .int (iI ((j : Int) + 1))) (A := (fun q => s.heap.size ≤ q)) (by decide) (hs ((Cond.arrayOf (Term.static "UrnHeap$1" "$SwitchMap$UrnHeap$Kind" "[I") FieldType.int)) (List.mem_of_getElem? (i := 231) (by decide +kernel))) (va_eqt (hs ((Cond.eq (Term.length (Term.static "UrnHeap$1" "$SwitchMap$UrnHeap$Kind" "[I")) (Term.int 10))) (List.mem_of_getElem? (i := 232) (by decide +kernel)))) (fun j hj => va_eqt (hs _ (List.mem_of_getElem? (i := 233 + j) (of_decide_eq_true (List.all_eq_true.mp (by decide +kernel : (List.range 10).all (fun j => decide (nf_[233 + j]? = some (Cond.eq (Term.elem (Term.static "UrnHeap$1" "$SwitchMap$UrnHeap$Kind" "[I") (Term.int (Int32.ofNat j))) (Term.int (iI ((j : Int) + 1)))))) = true) j (List.mem_range.mpr hj)))))) (fun a h => Nat.not_le.mpr h)
  obtain ⟨aO, hv_aO, hT_aO⟩ := va_Tof (args := args) (tm := (Term.static "java/lang/Integer" "DigitOnes" "[B")) (ty := .byte) (N := 100) (f := fun j => .int (iI (48 + (j : Int) % 10))) (A := (fun q => s.heap.size ≤ q)) (by decide) (hs ((Cond.arrayOf (Term.static "java/lang/Integer" "DigitOnes" "[B") FieldType.byte)) (List.mem_of_getElem? (i := 10) (by decide +kernel))) (va_eqt (hs ((Cond.eq (Term.length (Term.static "java/lang/Integer" "DigitOnes" "[B")) (Term.int 100))) (List.mem_of_getElem? (i := 11) (by decide +kernel)))) (fun j hj => va_eqt (hs _ (List.mem_of_getElem? (i := 12 + j) (of_decide_eq_true (List.all_eq_true.mp (by decide +kernel : (List.range 100).all (fun j => decide (nf_[12 + j]? = some (Cond.eq (Term.elem (Term.static "java/lang/Integer" "DigitOnes" "[B") (Term.int (Int32.ofNat j))) (Term.int (iI (48 + (j : Int) % 10)))))) = true) j (List.mem_range.mpr hj)))))) (fun a h => Nat.not_le.mpr h)
  obtain ⟨aT, hv_aT, hT_aT⟩ := va_Tof (args := args) (tm := (Term.static "java/lang/Integer" "DigitTens" "[B")) (ty := .byte) (N := 100) (f := fun j => .int (iI (48 + (j : Int) / 10))) (A := (fun q => s.heap.size ≤ q)) (by decide) (hs ((Cond.arrayOf (Term.static "java/lang/Integer" "DigitTens" "[B") FieldType.byte)) (List.mem_of_getElem? (i := 113) (by decide +kernel))) (va_eqt (hs ((Cond.eq (Term.length (Term.static "java/lang/Integer" "DigitTens" "[B")) (Term.int 100))) (List.mem_of_getElem? (i := 114) (by decide +kernel)))) (fun j hj => va_eqt (hs _ (List.mem_of_getElem? (i := 115 + j) (of_decide_eq_true (List.all_eq_true.mp (by decide +kernel : (List.range 100).all (fun j => decide (nf_[115 + j]? = some (Cond.eq (Term.elem (Term.static "java/lang/Integer" "DigitTens" "[B") (Term.int (Int32.ofNat j))) (Term.int (iI (48 + (j : Int) / 10)))))) = true) j (List.mem_range.mpr hj)))))) (fun a h => Nat.not_le.mpr h)
  obtain ⟨oF, hF⟩ : ∃ o : Option Nat, va_Z "jdk/internal/util/Preconditions" "SIOOBE_FORMATTER" "Ljava/util/function/BiFunction;" (va_rf o) (fun q => s.heap.size ≤ q) s s.heap := by
    rcases va_Zqof (hts (Cond.laysStatic "jdk/internal/util/Preconditions" "SIOOBE_FORMATTER" "Ljava/util/function/BiFunction;") (List.mem_of_getElem? (i := 677) (by decide +kernel))) (hts (Cond.initialized "jdk/internal/util/Preconditions") (List.mem_of_getElem? (i := 43) (by decide +kernel))) (hs ((Cond.isRef (Term.static "jdk/internal/util/Preconditions" "SIOOBE_FORMATTER" "Ljava/util/function/BiFunction;"))) (List.mem_of_getElem? (i := 5) (by decide +kernel))) (fun a h => Nat.not_le.mpr h) with h | ⟨t, h⟩
    · exact ⟨none, h⟩
    · exact ⟨some t, h⟩
  have hZ1 : va_Z "java/lang/String" "COMPACT_STRINGS" "Z" (.int (iI 1)) (fun q => s.heap.size ≤ q) s s.heap := va_Zof (hts (Cond.laysStatic "java/lang/String" "COMPACT_STRINGS" "Z") (List.mem_of_getElem? (i := 273) (by decide +kernel))) (hts (Cond.initialized "java/lang/String") (List.mem_of_getElem? (i := 37) (by decide +kernel))) (va_eqt (hs ((Cond.eq (Term.static "java/lang/String" "COMPACT_STRINGS" "Z") (Term.int 1))) (List.mem_of_getElem? (i := 4) (by decide +kernel)))) (fun a h => Nat.not_le.mpr h)
  have hZ3 := va_Zof (A := (fun q => s.heap.size ≤ q)) (hts (Cond.laysStatic "UrnHeap$Kind" "ALL" "[LUrnHeap$Kind;") (List.mem_of_getElem? (i := 878) (by decide +kernel))) (hts (Cond.initialized "UrnHeap$Kind") (List.mem_of_getElem? (i := 48) (by decide +kernel))) hv_aA (fun a h => Nat.not_le.mpr h)
  have hZ4 := va_Zof (A := (fun q => s.heap.size ≤ q)) (hts (Cond.laysStatic "UrnHeap$1" "$SwitchMap$UrnHeap$Kind" "[I") (List.mem_of_getElem? (i := 948) (by decide +kernel))) (hts (Cond.initialized "UrnHeap$1") (List.mem_of_getElem? (i := 49) (by decide +kernel))) hv_aS (fun a h => Nat.not_le.mpr h)
  have hZ5 := va_Zof (A := (fun q => s.heap.size ≤ q)) (hts (Cond.laysStatic "java/lang/Integer" "DigitOnes" "[B") (List.mem_of_getElem? (i := 747) (by decide +kernel))) (hts (Cond.initialized "java/lang/Integer") (List.mem_of_getElem? (i := 46) (by decide +kernel))) hv_aO (fun a h => Nat.not_le.mpr h)
  have hZ6 := va_Zof (A := (fun q => s.heap.size ≤ q)) (hts (Cond.laysStatic "java/lang/Integer" "DigitTens" "[B") (List.mem_of_getElem? (i := 749) (by decide +kernel))) (hts (Cond.initialized "java/lang/Integer") (List.mem_of_getElem? (i := 46) (by decide +kernel))) hv_aT (fun a h => Nat.not_le.mpr h)
  refine ⟨(D, (fun k => if k = 1 then aS else if k = 2 then aA else if k = 3 then aO else if k = 4 then aT else if k = 5 then oF.getD 0 else if k = 6 then (if oF.isSome then 0 else 1) else if k < 200 then ([E0, E1, E2, E3, E4, E5, E6, E7, E8, E9] : List Nat).getD (k - 100) 0 else if k < 300 then ([K0, K1, K2, K3, K4, K5, K6, K7, K8, K9, K10, K11, K12, K13, K14, K15] : List Nat).getD (k - 200) 0 else ([V0, V1, V2, V3, V4, V5, V6, V7, V8, V9, V10, V11, V12, V13, V14, V15] : List Nat).getD (k - 300) 0), s.heap.size), rfl, rfl, ?_, ?_, ⟨hZ1, ?_, hZ3, hZ4, hZ5, hZ6⟩, ⟨va_Tx hT_aA (fun j hj => by
    match j, hj with
    | 0, _ => rfl
    | 1, _ => rfl
    | 2, _ => rfl
    | 3, _ => rfl
    | 4, _ => rfl
    | 5, _ => rfl
    | 6, _ => rfl
    | 7, _ => rfl
    | 8, _ => rfl
    | 9, _ => rfl
    | n + 10, h => exact absurd h (by omega)), hT_aS, hT_aO, hT_aT⟩, ?_, ?_, ?_, ?_⟩
  · intro i hi
    match i, hi with
    | 0, _ => exact hs0
    | 1, _ => exact hs1
    | 2, _ => exact hs2
    | 3, _ => exact hs3
    | 4, _ => exact hs4
    | 5, _ => exact hs5
    | 6, _ => exact hs6
    | 7, _ => exact hs7
    | 8, _ => exact hs8
    | 9, _ => exact hs9
    | 10, _ => exact hs10
    | 11, _ => exact hs11
    | 12, _ => exact hs12
    | 13, _ => exact hs13
    | 14, _ => exact hs14
    | 15, _ => exact hs15
    | n + 16, h => exact absurd h (by omega)
  · intro i hi
    match i, hi with
    | 0, _ => exact hE0
    | 1, _ => exact hE1
    | 2, _ => exact hE2
    | 3, _ => exact hE3
    | 4, _ => exact hE4
    | 5, _ => exact hE5
    | 6, _ => exact hE6
    | 7, _ => exact hE7
    | 8, _ => exact hE8
    | 9, _ => exact hE9
    | n + 10, h => exact absurd h (by omega)
  · cases oF with
    | none => exact hF
    | some t => exact hF
  · intro w hw
    have hn : ∀ w ∈ nwl_, (Cond.methodLinkNest w.1 w.2.1 w.2.2 "UrnHeap") ∈ lw_tbl := by
      have h9 : nwl_.all (fun w => decide ((Cond.methodLinkNest w.1 w.2.1 w.2.2 "UrnHeap") ∈ lw_tbl)) = true := by decide +kernel
      exact fun w hw => of_decide_eq_true (List.all_eq_true.mp h9 w hw)
    exact va_Nw.of rfl (hts _ (hn w hw))
  · exact va_Nw.of rfl (hts (Cond.fieldLinkNest "UrnHeap$Orders" 60 "UrnHeap$Kind" "ALL" "[LUrnHeap$Kind;" "UrnHeap") (List.mem_of_getElem? (i := 877) (by decide +kernel)))
  · intro i w hw
    match i, hw with
    | 0, hw => cases hw; exact vk_R.of (hts (Cond.stringRef "UrnHeapLaw" 105 "tie ") (List.mem_of_getElem? (i := 616) (by decide +kernel))) he10
    | 1, hw => cases hw; exact vk_R.of (hts (Cond.stringRef "UrnHeapLaw" 113 ".") (List.mem_of_getElem? (i := 758) (by decide +kernel))) he11
    | 2, hw => cases hw; exact vk_R.of (hts (Cond.stringRef "UrnHeapLaw" 115 "=") (List.mem_of_getElem? (i := 759) (by decide +kernel))) he12
    | 3, hw => cases hw; exact vk_R.of (hts (Cond.stringRef "UrnHeapLaw" 117 ";step 4") (List.mem_of_getElem? (i := 760) (by decide +kernel))) he13
    | 4, hw => cases hw; exact vk_R.of (hts (Cond.stringRef "UrnHeapLaw" 119 ";urn!") (List.mem_of_getElem? (i := 761) (by decide +kernel))) he14
    | 5, hw => cases hw; exact vk_R.of (hts (Cond.stringRef "UrnHeapLaw" 121 ";") (List.mem_of_getElem? (i := 762) (by decide +kernel))) he15
    | i + 6, hw => cases hw
  · exact ⟨va_AO.of (hts (Cond.arrayOver (.object "UrnHeap$Heap")) (List.mem_of_getElem? (i := 235) (by decide +kernel))), va_AO.of (hts (Cond.arrayOver (.object "UrnHeap$Kind")) (List.mem_of_getElem? (i := 297) (by decide +kernel))), va_Nw.of rfl (hts (Cond.castable "[B" "java/lang/Cloneable") (List.mem_of_getElem? (i := 655) (by decide +kernel)))⟩
