theorem bv_rg (a : Int) : rg_ (bv_ a) := by
  unfold bv_
  split <;> exact ⟨by decide, by decide⟩
theorem bv_01 (a : Int) : bv_ a = 0 ∨ bv_ a = 1 := by
  unfold bv_
  split
  · exact Or.inl rfl
  · exact Or.inr rfl
set_option maxHeartbeats 4000000 in
set_option maxRecDepth 100000 in
theorem law_loop {RR : Nat → mu_T → mu_T → Prop} (hskip : ∀ (t : Nat) (μ ν : mu_T), RR t μ ν → RR (t + 1) μ ν) (h0 : pf_urn RR) (h1 : pf_tie RR) (h2 : pf_untie RR) (h3 : pf_weak RR) (h4 : pf_unweak RR) (h5 : pf_name RR) (h6 : pf_drop RR) (h7 : pf_urnOf RR) (h8 : pf_threadOf RR) (h9 : pf_named RR) (h10 : pf_begin RR) (h11 : pf_step RR) (h12 : pf_round RR) (h13 : pf_rite RR) (h14 : pf_due RR) (h15 : pf_grey RR) (h16 : pf_freed RR) (h17 : pf_live RR) (h18 : pf_liveAgain RR) (h19 : pf_depth RR) (h20 : pf_keepers RR) (h21 : pf_ring RR) (h22 : pf_wouldFree RR) (h23 : pf_ranked RR) (h24 : pf_append RR) (h25 : pf_run RR) (h26 : pf_tell RR) (h27 : pf_tellHeap RR) (h28 : pf_character RR) (h29 : pf_reason RR) (h30 : pf_account RR) (h31 : pf_isBalanced RR) (h32 : pf_meanHeld RR) (h33 : pf_liveShare RR) (h34 : pf_undo RR) (h35 : pf_save RR) (h36 : pf_restore RR) {G : gp_} {X : ct_} {ad adM : Nat → Nat} {b L : Nat} {xs : Nat → Int32} {ret9 : Option FieldType} (C : cx_ G X code "UrnHeapLaw" room_1 ret9 8) (Sx : sx_ X b L xs) (hL : L ≤ 2048) (hend : ∀ (p q : Nat) (μ ν : mu_T) (k n i : Nat), k ≤ 600000 → n ≤ 7302250 → wy_ G X ad adM p q μ ν k n 1073 [(3, .int (iI (i : Nat))), (0, .ref b), (1, .ref (ad 132)), (2, .ref (adM 0))] []) : ∀ (m i p q k n t : Nat) (μ ν : mu_T), L < i + 4 + 4 * m → i ≤ L + 4 → t + m ≤ 512 → RR t μ ν → k + 25 * m ≤ 600000 ∧ n + 1750 * m ≤ 7302250 → wy_ G X ad adM p q μ ν k n 18 [(3, .int (iI (i : Nat))), (0, .ref b), (1, .ref (ad 132)), (2, .ref (adM 0))] [] := by
  intro m
  induction m with
  | zero =>
    intro i p q k n t μ ν hm hiL htm hR hk
    refine xx_iload_n C 19 rfl 0 dL_law_18 rfl rfl ?_
    refine xx_aload_n C 20 rfl 1 dL_law_19 rfl rfl ?_
    refine xx_slen C Sx 21 rfl dL_law_20 ?_
    refine xx_iconst C 22 rfl dL_law_21 ?_
    refine xx_isub C 23 rfl dL_law_22 ?_
    refine xx_icmp_gt (tgt := 1073) (t := some ()) (f := none) (r := ()) C 26 rfl dL_law_23 (by decide) (by unfold lt_; rw [if_pos ⟨⟨by omega, by omega⟩, by omega, by omega⟩, if_pos (by omega)]) (fun _ => ?_) (fun h => nn_ h)
    exact hend p q μ ν k n i (by omega) (by omega)
  | succ m ih =>
    intro i p q k n t μ ν hm hiL htm hR hk
    refine xx_iload_n C 19 rfl 0 dL_law_18 rfl rfl ?_
    refine xx_aload_n C 20 rfl 1 dL_law_19 rfl rfl ?_
    refine xx_slen C Sx 21 rfl dL_law_20 ?_
    refine xx_iconst C 22 rfl dL_law_21 ?_
    refine xx_isub C 23 rfl dL_law_22 ?_
    by_cases hi : i + 4 ≤ L
    · refine xx_icmp_gt (tgt := 1073) (t := none) (f := some ()) (r := ()) C 26 rfl dL_law_23 (by decide) (by unfold lt_; rw [if_pos ⟨⟨by omega, by omega⟩, by omega, by omega⟩, if_neg (by omega)]) (fun h => nn_ h) (fun _ => ?_)
      have ht : t < 512 := by omega
      have hk25 : k + 25 ≤ 600000 ∧ n + 1750 ≤ 7302250 := by omega
      have hnext : ∀ (p q : Nat) (μ1 ν1 : mu_T) (k2 n2 : Nat), k2 ≤ k + 25 → n2 ≤ n + 1750 → RR (t + 1) μ1 ν1 → wy_ G X ad adM p q μ1 ν1 k2 n2 1067 [(3, .int (iI (i : Nat))), (0, .ref b), (1, .ref (ad 132)), (2, .ref (adM 0))] [] := by
        intro p q μ1 ν1 k2 n2 hk2 hn2 hR1
        refine xx_iincn (f := fun z => if z = (i + 4 : Nat) then some () else none) (r := ()) C 1070 rfl 0 (by decide) dL_law_1067 rfl (by unfold nm_; exact if_pos (by omega)) (fun z hz => ?_)
        obtain rfl := (ck_e hz).1
        refine xx_goto C 18 dL_law_1070 (by decide) ?_
        refine xx_lv (lv1 := [(3, .int (iI (i + 4 : Nat))), (0, .ref b), (1, .ref (ad 132)), (2, .ref (adM 0))]) rfl ?_
        exact ih (i + 4) p q k2 n2 (t + 1) μ1 ν1 (by omega) (by omega) (by omega) hR1 ⟨by omega, by omega⟩
      refine xx_aload_n C 27 rfl 1 dL_law_26 rfl rfl ?_
      refine xx_iload_n C 28 rfl 0 dL_law_27 rfl rfl ?_
      refine xx_sld C Sx 29 rfl i 0 (by omega) (by omega) (by omega) dL_law_28 ?_
      refine xx_bipush C 31 rfl dL_law_29 (by decide) ?_
      refine xx_iand C 32 rfl dL_law_31 ?_
      refine xx_tsw C [0, 1, 2, 3, 4, 5, 6, 7, 8, 9, 10, 11, 12, 13, 14, 15, 16, 17, 18, 19, 20, 21, 22, 23, 24, 25, 26, 27, 28, 29, 30, 31, 32, 33, 34, 35, 36] _ [196, 235, 278, 311, 344, 367, 400, 423, 456, 489, 512, 525, 548, 561, 574, 597, 620, 643, 656, 669, 692, 715, 738, 751, 774, 797, 810, 833, 846, 869, 908, 931, 944, 985, 1028, 1041, 1054] 1067 dL_law_32 (by decide) rfl (ts_all (iI_rg _) [0, 1, 2, 3, 4, 5, 6, 7, 8, 9, 10, 11, 12, 13, 14, 15, 16, 17, 18, 19, 20, 21, 22, 23, 24, 25, 26, 27, 28, 29, 30, 31, 32, 33, 34, 35, 36]) (fun _ => hnext p q μ ν k n (by omega) (by omega) (hskip t μ ν hR)) ⟨fun _ => ?_, fun _ => ?_, fun _ => ?_, fun _ => ?_, fun _ => ?_, fun _ => ?_, fun _ => ?_, fun _ => ?_, fun _ => ?_, fun _ => ?_, fun _ => ?_, fun _ => ?_, fun _ => ?_, fun _ => ?_, fun _ => ?_, fun _ => ?_, fun _ => ?_, fun _ => ?_, fun _ => ?_, fun _ => ?_, fun _ => ?_, fun _ => ?_, fun _ => ?_, fun _ => ?_, fun _ => ?_, fun _ => ?_, fun _ => ?_, fun _ => ?_, fun _ => ?_, fun _ => ?_, fun _ => ?_, fun _ => ?_, fun _ => ?_, fun _ => ?_, fun _ => ?_, fun _ => ?_, fun _ => ?_, trivial⟩
      · obtain ⟨r, μ1, ν1, hX, hM, hR1⟩ := h0 t μ ν (bv_ (sv_ xs i 1)) ht hR (bv_rg _) (bv_01 _)
        exact lc_urn (nl := 8) C Sx hi hL hk25 hX hM (fun p q k2 n2 hk2 hn2 => hnext p q _ _ k2 n2 hk2 hn2 hR1)
      · obtain ⟨r, μ1, ν1, hX, hM, hR1⟩ := h1 t μ ν (sv_ xs i 1) (sv_ xs i 2) (sv_ xs i 3) ht hR (sv_rg xs i 1) (sv_rg xs i 2) (sv_rg xs i 3)
        exact lc_tie (nl := 8) C Sx hi hL hk25 hX hM (fun p q k2 n2 hk2 hn2 => hnext p q _ _ k2 n2 hk2 hn2 hR1)
      · obtain ⟨r, μ1, ν1, hX, hM, hR1⟩ := h2 t μ ν (sv_ xs i 1) (sv_ xs i 2) ht hR (sv_rg xs i 1) (sv_rg xs i 2)
        exact lc_untie (nl := 8) C Sx hi hL hk25 hX hM (fun p q k2 n2 hk2 hn2 => hnext p q _ _ k2 n2 hk2 hn2 hR1)
      · obtain ⟨r, μ1, ν1, hX, hM, hR1⟩ := h3 t μ ν (sv_ xs i 1) (sv_ xs i 2) ht hR (sv_rg xs i 1) (sv_rg xs i 2)
        exact lc_weak (nl := 8) C Sx hi hL hk25 hX hM (fun p q k2 n2 hk2 hn2 => hnext p q _ _ k2 n2 hk2 hn2 hR1)
      · obtain ⟨r, μ1, ν1, hX, hM, hR1⟩ := h4 t μ ν (sv_ xs i 1) ht hR (sv_rg xs i 1)
        exact lc_unweak (nl := 8) C Sx hi hL hk25 hX hM (fun p q k2 n2 hk2 hn2 => hnext p q _ _ k2 n2 hk2 hn2 hR1)
      · obtain ⟨r, μ1, ν1, hX, hM, hR1⟩ := h5 t μ ν (sv_ xs i 1) (sv_ xs i 2) ht hR (sv_rg xs i 1) (sv_rg xs i 2)
        exact lc_name (nl := 8) C Sx hi hL hk25 hX hM (fun p q k2 n2 hk2 hn2 => hnext p q _ _ k2 n2 hk2 hn2 hR1)
      · obtain ⟨r, μ1, ν1, hX, hM, hR1⟩ := h6 t μ ν (sv_ xs i 1) ht hR (sv_rg xs i 1)
        exact lc_drop (nl := 8) C Sx hi hL hk25 hX hM (fun p q k2 n2 hk2 hn2 => hnext p q _ _ k2 n2 hk2 hn2 hR1)
      · obtain ⟨r, hX, hM, hR1⟩ := h7 t μ ν (sv_ xs i 1) (sv_ xs i 2) ht hR (sv_rg xs i 1) (sv_rg xs i 2)
        exact lc_urnOf (nl := 8) C Sx hi hL hk25 hX hM (fun p q k2 n2 hk2 hn2 => hnext p q _ _ k2 n2 hk2 hn2 hR1)
      · obtain ⟨r, hX, hM, hR1⟩ := h8 t μ ν (sv_ xs i 1) (sv_ xs i 2) ht hR (sv_rg xs i 1) (sv_rg xs i 2)
        exact lc_threadOf (nl := 8) C Sx hi hL hk25 hX hM (fun p q k2 n2 hk2 hn2 => hnext p q _ _ k2 n2 hk2 hn2 hR1)
      · obtain ⟨r, hX, hM, hR1⟩ := h9 t μ ν (sv_ xs i 1) ht hR (sv_rg xs i 1)
        exact lc_named (nl := 8) C Sx hi hL hk25 hX hM (fun p q k2 n2 hk2 hn2 => hnext p q _ _ k2 n2 hk2 hn2 hR1)
      · obtain ⟨r, μ1, ν1, hX, hM, hR1⟩ := h10 t μ ν ht hR
        exact lc_begin (nl := 8) C Sx hi hL hk25 hX hM (fun p q k2 n2 hk2 hn2 => hnext p q _ _ k2 n2 hk2 hn2 hR1)
      · obtain ⟨r, μ1, ν1, hX, hM, hR1⟩ := h11 t μ ν (sv_ xs i 1) ht hR (sv_rg xs i 1)
        exact lc_step (nl := 8) C Sx hi hL hk25 hX hM (fun p q k2 n2 hk2 hn2 => hnext p q _ _ k2 n2 hk2 hn2 hR1)
      · obtain ⟨r, μ1, ν1, hX, hM, hR1⟩ := h12 t μ ν ht hR
        exact lc_round (nl := 8) C Sx hi hL hk25 hX hM (fun p q k2 n2 hk2 hn2 => hnext p q _ _ k2 n2 hk2 hn2 hR1)
      · obtain ⟨r, μ1, ν1, hX, hM, hR1⟩ := h13 t μ ν ht hR
        exact lc_rite (nl := 8) C Sx hi hL hk25 hX hM (fun p q k2 n2 hk2 hn2 => hnext p q _ _ k2 n2 hk2 hn2 hR1)
      · obtain ⟨r, hX, hM, hR1⟩ := h14 t μ ν (sv_ xs i 1) ht hR (sv_rg xs i 1)
        exact lc_due (nl := 8) C Sx hi hL hk25 hX hM (fun p q k2 n2 hk2 hn2 => hnext p q _ _ k2 n2 hk2 hn2 hR1)
      · obtain ⟨r, hX, hM, hR1⟩ := h15 t μ ν (sv_ xs i 1) ht hR (sv_rg xs i 1)
        exact lc_grey (nl := 8) C Sx hi hL hk25 hX hM (fun p q k2 n2 hk2 hn2 => hnext p q _ _ k2 n2 hk2 hn2 hR1)
      · obtain ⟨r, hX, hM, hR1⟩ := h16 t μ ν (sv_ xs i 1) ht hR (sv_rg xs i 1)
        exact lc_freed (nl := 8) C Sx hi hL hk25 hX hM (fun p q k2 n2 hk2 hn2 => hnext p q _ _ k2 n2 hk2 hn2 hR1)
      · obtain ⟨r, ν1, hX, hM, hR1⟩ := h17 t μ ν ht hR
        exact lc_live (nl := 8) C Sx hi hL hk25 hX hM (fun p q k2 n2 hk2 hn2 => hnext p q _ _ k2 n2 hk2 hn2 hR1)
      · obtain ⟨r, ν1, hX, hM, hR1⟩ := h18 t μ ν ht hR
        exact lc_liveAgain (nl := 8) C Sx hi hL hk25 hX hM (fun p q k2 n2 hk2 hn2 => hnext p q _ _ k2 n2 hk2 hn2 hR1)
      · obtain ⟨r, ν1, hX, hM, hR1⟩ := h19 t μ ν (sv_ xs i 1) ht hR (sv_rg xs i 1)
        exact lc_depth (nl := 8) C Sx hi hL hk25 hX hM (fun p q k2 n2 hk2 hn2 => hnext p q _ _ k2 n2 hk2 hn2 hR1)
      · obtain ⟨r, ν1, hX, hM, hR1⟩ := h20 t μ ν (sv_ xs i 1) ht hR (sv_rg xs i 1)
        exact lc_keepers (nl := 8) C Sx hi hL hk25 hX hM (fun p q k2 n2 hk2 hn2 => hnext p q _ _ k2 n2 hk2 hn2 hR1)
      · obtain ⟨r, ν1, hX, hM, hR1⟩ := h21 t μ ν (sv_ xs i 1) ht hR (sv_rg xs i 1)
        exact lc_ring (nl := 8) C Sx hi hL hk25 hX hM (fun p q k2 n2 hk2 hn2 => hnext p q _ _ k2 n2 hk2 hn2 hR1)
      · obtain ⟨r, ν1, hX, hM, hR1⟩ := h22 t μ ν ht hR
        exact lc_wouldFree (nl := 8) C Sx hi hL hk25 hX hM (fun p q k2 n2 hk2 hn2 => hnext p q _ _ k2 n2 hk2 hn2 hR1)
      · obtain ⟨r, μ1, hX, hM, hR1⟩ := h23 t μ ν (sv_ xs i 1) ht hR (sv_rg xs i 1)
        exact lc_ranked (nl := 8) C Sx hi hL hk25 hX hM (fun p q k2 n2 hk2 hn2 => hnext p q _ _ k2 n2 hk2 hn2 hR1)
      · obtain ⟨r, μ1, ν1, hX, hM, hR1⟩ := h24 t μ ν (sv_ xs i 1) ht hR (sv_rg xs i 1)
        exact lc_append (nl := 8) C Sx hi hL hk25 hX hM (fun p q k2 n2 hk2 hn2 => hnext p q _ _ k2 n2 hk2 hn2 hR1)
      · obtain ⟨r, μ1, ν1, hX, hM, hR1⟩ := h25 t μ ν ht hR
        exact lc_run (nl := 8) C Sx hi hL hk25 hX hM (fun p q k2 n2 hk2 hn2 => hnext p q _ _ k2 n2 hk2 hn2 hR1)
      · obtain ⟨r, μ1, ν1, hX, hM, hR1⟩ := h26 t μ ν (sv_ xs i 1) ht hR (sv_rg xs i 1)
        exact lc_tell (nl := 8) C Sx hi hL hk25 hX hM (fun p q k2 n2 hk2 hn2 => hnext p q _ _ k2 n2 hk2 hn2 hR1)
      · obtain ⟨r, μ1, ν1, hX, hM, hR1⟩ := h27 t μ ν ht hR
        exact lc_tellHeap (nl := 8) C Sx hi hL hk25 hX hM (fun p q k2 n2 hk2 hn2 => hnext p q _ _ k2 n2 hk2 hn2 hR1)
      · obtain ⟨r, hX, hM, hR1⟩ := h28 t μ ν (sv_ xs i 1) ht hR (sv_rg xs i 1)
        exact lc_character (nl := 8) C Sx hi hL hk25 hX hM (fun p q k2 n2 hk2 hn2 => hnext p q _ _ k2 n2 hk2 hn2 hR1)
      · obtain ⟨r, hX, hM, hR1⟩ := h29 t μ ν (bv_ (sv_ xs i 1)) ht hR (bv_rg _) (bv_01 _)
        exact lc_reason (nl := 8) C Sx hi hL hk25 hX hM (fun p q k2 n2 hk2 hn2 => hnext p q _ _ k2 n2 hk2 hn2 hR1)
      · obtain ⟨r, hX, hM, hR1⟩ := h30 t μ ν (sv_ xs i 1) ht hR (sv_rg xs i 1)
        exact lc_account (nl := 8) C Sx hi hL hk25 hX hM (fun p q k2 n2 hk2 hn2 => hnext p q _ _ k2 n2 hk2 hn2 hR1)
      · obtain ⟨r, hX, hM, hR1⟩ := h31 t μ ν ht hR
        exact lc_isBalanced (nl := 8) C Sx hi hL hk25 hX hM (fun p q k2 n2 hk2 hn2 => hnext p q _ _ k2 n2 hk2 hn2 hR1)
      · obtain ⟨d, hX, hM, hR1, hc⟩ := h32 t μ ν ht hR
        exact lc_meanHeld (nl := 8) C Sx hi hL hk25 hX hM hc (fun p q k2 n2 hk2 hn2 => hnext p q _ _ k2 n2 hk2 hn2 hR1)
      · obtain ⟨d, ν1, hX, hM, hR1, hn, hc⟩ := h33 t μ ν ht hR
        exact lc_liveShare (nl := 8) C Sx hi hL hk25 hX hM hn hc (fun p q k2 n2 hk2 hn2 => hnext p q _ _ k2 n2 hk2 hn2 hR1)
      · obtain ⟨r, μ1, ν1, hX, hM, hR1⟩ := h34 t μ ν ht hR
        exact lc_undo (nl := 8) C Sx hi hL hk25 hX hM (fun p q k2 n2 hk2 hn2 => hnext p q _ _ k2 n2 hk2 hn2 hR1)
      · obtain ⟨r, μ1, ν1, hX, hM, hR1⟩ := h35 t μ ν ht hR
        exact lc_save (nl := 8) C Sx hi hL hk25 hX hM (fun p q k2 n2 hk2 hn2 => hnext p q _ _ k2 n2 hk2 hn2 hR1)
      · obtain ⟨r, μ1, ν1, hX, hM, hR1⟩ := h36 t μ ν ht hR
        exact lc_restore (nl := 8) C Sx hi hL hk25 hX hM (fun p q k2 n2 hk2 hn2 => hnext p q _ _ k2 n2 hk2 hn2 hR1)
    · refine xx_icmp_gt (tgt := 1073) (t := some ()) (f := none) (r := ()) C 26 rfl dL_law_23 (by decide) (by unfold lt_; rw [if_pos ⟨⟨by omega, by omega⟩, by omega, by omega⟩, if_pos (by omega)]) (fun _ => ?_) (fun h => nn_ h)
      exact hend p q μ ν k n i (by omega) (by omega)
