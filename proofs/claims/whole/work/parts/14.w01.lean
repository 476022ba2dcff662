theorem w_105 : Cond.methodLink "UrnHeapLaw" 9 yX11_init ∈ gT_ := gm_ 105 (by decide +kernel)
theorem w_1168 : Cond.methodLink "UrnHeapLaw" 12 yX12_init ∈ gT_ := gm_ 1168 (by decide +kernel)
theorem w_106 : Cond.instanceMethod yX11_init ∈ gT_ := gm_ 106 (by decide +kernel)
theorem w_1169 : Cond.instanceMethod yX12_init ∈ gT_ := gm_ 1169 (by decide +kernel)
theorem w_107 : Cond.code yX11_init cX11_init 3 none ∈ gT_ := gm_ 107 (by decide +kernel)
theorem w_1170 : Cond.code yX12_init cX12_init 2 none ∈ gT_ := gm_ 1170 (by decide +kernel)
theorem w_103 : Cond.classLink "UrnHeapLaw" 7 "UrnHeap" ∈ gT_ := gm_ 103 (by decide +kernel)
theorem w_104 : Cond.instantiable "UrnHeap" 8 ∈ gT_ := gm_ 104 (by decide +kernel)
theorem w_1166 : Cond.classLink "UrnHeapLaw" 10 "UrnHeapModel" ∈ gT_ := gm_ 1166 (by decide +kernel)
theorem w_1167 : Cond.instantiable "UrnHeapModel" 20 ∈ gT_ := gm_ 1167 (by decide +kernel)
theorem ca_X11_init : ca_ yX11_init cX11_init 3 none 0 := ⟨w_77, w_107, by decide, by decide, by decide +kernel⟩
theorem ca_X12_init : ca_ yX12_init cX12_init 2 none 0 := ⟨w_92, w_1170, by decide, by decide, by decide +kernel⟩
set_option maxHeartbeats 4000000 in
set_option maxRecDepth 100000 in
theorem law_start {RR : Nat → mu_T → mu_T → Prop} (hskip : ∀ (t : Nat) (μ ν : mu_T), RR t μ ν → RR (t + 1) μ ν) (hR0 : RR 0 mX0_ mM0_) (h0 : pf_urn RR) (h1 : pf_tie RR) (h2 : pf_untie RR) (h3 : pf_weak RR) (h4 : pf_unweak RR) (h5 : pf_name RR) (h6 : pf_drop RR) (h7 : pf_urnOf RR) (h8 : pf_threadOf RR) (h9 : pf_named RR) (h10 : pf_begin RR) (h11 : pf_step RR) (h12 : pf_round RR) (h13 : pf_rite RR) (h14 : pf_due RR) (h15 : pf_grey RR) (h16 : pf_freed RR) (h17 : pf_live RR) (h18 : pf_liveAgain RR) (h19 : pf_depth RR) (h20 : pf_keepers RR) (h21 : pf_ring RR) (h22 : pf_wouldFree RR) (h23 : pf_ranked RR) (h24 : pf_append RR) (h25 : pf_run RR) (h26 : pf_tell RR) (h27 : pf_tellHeap RR) (h28 : pf_character RR) (h29 : pf_reason RR) (h30 : pf_account RR) (h31 : pf_isBalanced RR) (h32 : pf_meanHeld RR) (h33 : pf_liveShare RR) (h34 : pf_undo RR) (h35 : pf_save RR) (h36 : pf_restore RR) {p : Program} {e : Env} {s : State} {m : MethodId} {below : List Frame} {meth : Method} {c : Code} (l : Launch) {b L : Nat} {xs : Nat → Int32} (hL : L ≤ 2048) (C0 : lw_At p s m meth c b L xs) : W p l e room_1 s m #[Value.ref b] below meth c s.heap [] 0 0 (lw_Z below #[Value.ref b] s) (entryFrame m ([Value.ref b] : List Value).toArray 8) := by
  obtain ⟨hx, hb, hr, hml, hown, hts, hX, hbl, hlocks, hgv⟩ := id C0
  have hs : ∀ w ∈ nf_, w.before #[Value.ref b] s = true := flat_of_before _ hgv
  obtain ⟨D, hK⟩ := vK_start hts
  obtain ⟨G, hG1, hG2, hg⟩ := gk_start hs hts D
  rw [← hG1] at hK
  have C : cx_ G (p, l, e, room_1, s, m, #[Value.ref b], below, meth, c, lw_Z below #[Value.ref b] s, (fun q => s.heap.size ≤ q), 8) code "UrnHeapLaw" room_1 ret 8 := ⟨hx, hb, gT_ok hts, hown, hK, fun q h => h, hml, hlocks, fun q h => by rw [hG2]; exact h, rfl, hr, hg, rfl⟩
  have Sx : sx_ (p, l, e, room_1, s, m, #[Value.ref b], below, meth, c, lw_Z below #[Value.ref b] s, (fun q => s.heap.size ≤ q), 8) b L xs := ⟨hX, hbl, Nat.not_le.mpr hbl⟩
  have hl := lv_entry ([.ref b]) (n := 8) (Nat.le_of_ble_eq_true rfl)
  rw [lg_entry_eq]
  have K : wv_ G (p, l, e, room_1, s, m, #[Value.ref b], below, meth, c, lw_Z below #[Value.ref b] s, (fun q => s.heap.size ≤ q), 8) [] 0 0 0 [(0, .ref b)] [] := by
    generalize hXX : ((p, l, e, room_1, s, m, #[Value.ref b], below, meth, c, lw_Z below #[Value.ref b] s, (fun q => s.heap.size ≤ q), 8) : ct_) = X at C Sx ⊢
    refine xv_new (ci := 10) (fs := [.null, .null, .null, .null, .null, .null, .null, .null]) C 3 rfl in_X11 tyX11 tyX11_ok rfl (fun j hj => by rcases (show j = 0 ∨ j = 1 ∨ j = 2 ∨ j = 3 ∨ j = 4 ∨ j = 5 ∨ j = 6 ∨ j = 7 by omega) with rfl | rfl | rfl | rfl | rfl | rfl | rfl | rfl <;> rfl) ⟨w_103, w_104, w_77⟩ ⟨(Nat.le_of_ble_eq_true rfl), (Nat.le_of_ble_eq_true rfl)⟩ dL_law_0 (fun q => ?_)
    show wv_ G X ([] ++ [(q, .inr (10, [.null, .null, .null, .null, .null, .null, .null, .null]))]) 1 8 3 [(0, .ref b)] [.ref q]
    refine xx_dup C 4 rfl dL_law_3 rfl ?_
    refine xv_ctor (k := 1) (n := 8) (e := .inr (10, [.null, .null, .null, .null, .null, .null, .null, .null])) (ws := []) (q := q) (st := [.ref q]) (As := []) C 7 rfl ca_X11_init ⟨rfl, w_106⟩ w_105 rfl ⟨(Nat.le_of_ble_eq_true rfl), (Nat.le_of_ble_eq_true rfl)⟩ ⟨(Nat.le_of_ble_eq_true rfl), (Nat.le_of_ble_eq_true rfl)⟩ (Nat.le_of_ble_eq_true rfl) dL_law_4 (i_X11) (fun u => ?_) rfl
    refine wv_eq (ws2 := hX11_ G q u.1 u.2.1 u.2.2) (k2 := 151) (n2 := 3416) rfl (Nat.eq_of_beq_eq_true rfl) (Nat.eq_of_beq_eq_true rfl) ?_
    refine wv_map wX0_ok.1 wX0_ok.2 ?_
    refine xx_astore_n (lv1 := [(1, .ref q), (0, .ref b)]) C 8 rfl (by decide) dL_law_7 rfl rfl ?_
    refine xv_new (ci := 11) (fs := [.null, .null, .null, .null, .int (iI 0), .int (iI 0), .null, .null, .null, .null, .int (iI 0), .int (iI 0), .int (iI 0), .int (iI 0), .int (iI 0), .int (iI 0), .int (iI 0), .int (iI 0), .int (iI 0), .int (iI 0)]) C 11 rfl in_X12 tyX12 tyX12_ok rfl (fun j hj => by rcases (show j = 0 ∨ j = 1 ∨ j = 2 ∨ j = 3 ∨ j = 4 ∨ j = 5 ∨ j = 6 ∨ j = 7 ∨ j = 8 ∨ j = 9 ∨ j = 10 ∨ j = 11 ∨ j = 12 ∨ j = 13 ∨ j = 14 ∨ j = 15 ∨ j = 16 ∨ j = 17 ∨ j = 18 ∨ j = 19 by omega) with rfl | rfl | rfl | rfl | rfl | rfl | rfl | rfl | rfl | rfl | rfl | rfl | rfl | rfl | rfl | rfl | rfl | rfl | rfl | rfl <;> rfl) ⟨w_1166, w_1167, w_92⟩ ⟨(Nat.le_of_ble_eq_true rfl), (Nat.le_of_ble_eq_true rfl)⟩ dL_law_8 (fun qm => ?_)
    refine xx_dup C 12 rfl dL_law_11 rfl ?_
    refine xv_ctor (k := 152) (n := 3436) (e := .inr (11, [.null, .null, .null, .null, .int (iI 0), .int (iI 0), .null, .null, .null, .null, .int (iI 0), .int (iI 0), .int (iI 0), .int (iI 0), .int (iI 0), .int (iI 0), .int (iI 0), .int (iI 0), .int (iI 0), .int (iI 0)])) (ws := wl_ 151 (aX0_ q u.1 u.2.1 u.2.2) (ceX G (aX0_ q u.1 u.2.1 u.2.2)) mX0_) (q := qm) (st := [.ref qm]) (As := []) C 15 rfl ca_X12_init ⟨rfl, w_1169⟩ w_1168 rfl ⟨(Nat.le_of_ble_eq_true rfl), (Nat.le_of_ble_eq_true rfl)⟩ ⟨(Nat.le_of_ble_eq_true rfl), (Nat.le_of_ble_eq_true rfl)⟩ (Nat.le_of_ble_eq_true rfl) dL_law_12 (i_X12) (fun um => ?_) rfl
    generalize haX : aX0_ q u.1 u.2.1 u.2.2 = ad
    have eq9 : q = ad 132 := by rw [← haX]; rfl
    refine wv_eq (ws2 := wl_ 151 ad (ceX G ad) mX0_ ++ wl_ 9 (cq_ qm um) (ceM G (cq_ qm um)) mM0_) (k2 := 160) (n2 := 6883) rfl (Nat.eq_of_beq_eq_true rfl) (Nat.eq_of_beq_eq_true rfl) ?_
    rw [← wl_law]
    refine wv_wl ?_
    rw [eq9]
    have K9 : wy_ G X ad (cq_ qm um) (ad 142) (ad 150) mX0_ mM0_ 160 6883 15 [(1, .ref (ad 132)), (0, .ref b)] [.ref qm] := by
      refine xx_astore_n (lv1 := [(2, .ref qm), (1, .ref (ad 132)), (0, .ref b)]) C 16 rfl (by decide) dL_law_15 rfl rfl ?_
      refine xx_iconst C 17 rfl dL_law_16 ?_
      refine xx_istore_n (lv1 := [(3, .int (iI 0)), (2, .ref qm), (1, .ref (ad 132)), (0, .ref b)]) C 18 rfl (by decide) dL_law_17 rfl rfl ?_
      refine xx_sub (lv1 := [(3, .int (iI 0)), (0, .ref b), (1, .ref (ad 132)), (2, .ref qm)]) [0, 3, 2, 1] rfl ?_
      refine law_loop (adM := cq_ qm um) hskip h0 h1 h2 h3 h4 h5 h6 h7 h8 h9 h10 h11 h12 h13 h14 h15 h16 h17 h18 h19 h20 h21 h22 h23 h24 h25 h26 h27 h28 h29 h30 h31 h32 h33 h34 h35 h36 C Sx hL ?_ 512 0 (ad 142) (ad 150) _ _ 0 mX0_ mM0_ (by omega) (by omega) (by omega) hR0 (by omega)
      intro p9 q9 μ ν k n i hk hn
      refine xx_iconst C 1074 rfl dL_law_1073 ?_
      subst hXX
      intro H locs ls hP hD hS hl9
      refine W.widen hk hn ?_
      refine va_forget (fun q hq => hS.2.2 q hq) ?_
      exact lw_ret (d0 := s.drawn) (Drawn.sameBut.refl s.drawn lw_cs) hx hb hr hlocks dL_law_1074
    unfold wy_ at K9
    rw [am_id] at K9
    exact K9
  have e0 : wl_ ([] : va_W).length (aL_ []) (cL_ []) mz_ = [] := wl_L [] mz_
  have hP0 : va_P G.1 vwCl ([] : va_W) s.heap := fun k x h => by simp at h
  have hD0 : va_D (fun q : Nat => s.heap.size ≤ q) ([] : va_W) := ⟨fun i j x y h => by simp at h, fun k x h => by simp at h⟩
  exact K s.heap [] _ (by rw [e0]; exact hP0) (by rw [e0]; exact hD0) va_S.rf hl
