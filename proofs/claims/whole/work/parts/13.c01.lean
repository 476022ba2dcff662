/-! constructors (written by wip/gen/cgen.py) -/
theorem w_329 : Cond.methodLink "java/lang/AbstractStringBuilder" 3 Lib.objectInit ∈ gT_ := gm_ 329 (by decide +kernel)
theorem w_109 : Cond.instanceMethod Lib.objectInit ∈ gT_ := gm_ 109 (by decide +kernel)
theorem w_110 : Cond.code Lib.objectInit ⟨#[0xb1]⟩ 1 none ∈ gT_ := gm_ 110 (by decide +kernel)
theorem w_327 : Cond.instanceMethod yJ5_init_d00df ∈ gT_ := gm_ 327 (by decide +kernel)
theorem w_326 : Cond.methodLink "java/lang/StringBuilder" 1 yJ5_init_d00df ∈ gT_ := gm_ 326 (by decide +kernel)
theorem w_122 : Cond.methodLink "UrnHeap$Row" 3 Lib.objectInit ∈ gT_ := gm_ 122 (by decide +kernel)
theorem w_132 : Cond.arrayClass .int ∈ gT_ := gm_ 132 (by decide +kernel)
theorem w_237 : Cond.methodLink "UrnHeap$Refusals" 3 Lib.objectInit ∈ gT_ := gm_ 237 (by decide +kernel)
theorem w_252 : Cond.methodLink "UrnHeap$Hands" 3 Lib.objectInit ∈ gT_ := gm_ 252 (by decide +kernel)
theorem w_265 : Cond.methodLink "UrnHeap$Sexton" 3 Lib.objectInit ∈ gT_ := gm_ 265 (by decide +kernel)
theorem w_278 : Cond.methodLink "UrnHeap$Paths" 3 Lib.objectInit ∈ gT_ := gm_ 278 (by decide +kernel)
theorem w_116 : Cond.methodLink "UrnHeap$Heap" 3 Lib.objectInit ∈ gT_ := gm_ 116 (by decide +kernel)
theorem w_117 : Cond.classLink "UrnHeap$Heap" 33 "UrnHeap$Row" ∈ gT_ := gm_ 117 (by decide +kernel)
theorem w_118 : Cond.instantiable "UrnHeap$Row" 2 ∈ gT_ := gm_ 118 (by decide +kernel)
theorem w_120 : Cond.instanceMethod yX9_init ∈ gT_ := gm_ 120 (by decide +kernel)
theorem w_134 : Cond.static yJ7_fill_53178 ∈ gT_ := gm_ 134 (by decide +kernel)
theorem w_133 : Cond.methodLink "UrnHeap$Heap" 68 yJ7_fill_53178 ∈ gT_ := gm_ 133 (by decide +kernel)
theorem w_320 : Cond.methodLink "UrnHeap$Orders" 3 Lib.objectInit ∈ gT_ := gm_ 320 (by decide +kernel)
theorem w_321 : Cond.classLink "UrnHeap$Orders" 9 "java/lang/StringBuilder" ∈ gT_ := gm_ 321 (by decide +kernel)
theorem w_322 : Cond.instantiable "java/lang/StringBuilder" 4 ∈ gT_ := gm_ 322 (by decide +kernel)
theorem w_324 : Cond.instanceMethod yJ4_init_da8c8 ∈ gT_ := gm_ 324 (by decide +kernel)
theorem w_323 : Cond.methodLink "UrnHeap$Orders" 11 yJ4_init_da8c8 ∈ gT_ := gm_ 323 (by decide +kernel)
theorem w_353 : Cond.classLink "UrnHeap$Orders" 18 "UrnHeap$Kind" ∈ gT_ := gm_ 353 (by decide +kernel)
theorem w_390 : Cond.methodLink "UrnHeap$Line" 3 Lib.objectInit ∈ gT_ := gm_ 390 (by decide +kernel)
theorem w_391 : Cond.classLink "UrnHeap$Line" 9 "java/lang/StringBuilder" ∈ gT_ := gm_ 391 (by decide +kernel)
theorem w_392 : Cond.methodLink "UrnHeap$Line" 11 yJ4_init_da8c8 ∈ gT_ := gm_ 392 (by decide +kernel)
theorem w_291 : Cond.methodLink "UrnHeap$History" 3 Lib.objectInit ∈ gT_ := gm_ 291 (by decide +kernel)
theorem w_292 : Cond.classLink "UrnHeap$History" 9 "UrnHeap$Heap" ∈ gT_ := gm_ 292 (by decide +kernel)
theorem w_112 : Cond.instantiable "UrnHeap$Heap" 17 ∈ gT_ := gm_ 112 (by decide +kernel)
theorem w_114 : Cond.instanceMethod yX2_init ∈ gT_ := gm_ 114 (by decide +kernel)
theorem w_294 : Cond.methodLink "UrnHeap$History" 17 yX2_init ∈ gT_ := gm_ 294 (by decide +kernel)
theorem w_108 : Cond.methodLink "UrnHeap" 1 Lib.objectInit ∈ gT_ := gm_ 108 (by decide +kernel)
theorem w_111 : Cond.classLink "UrnHeap" 7 "UrnHeap$Heap" ∈ gT_ := gm_ 111 (by decide +kernel)
theorem w_113 : Cond.methodLink "UrnHeap" 9 yX2_init ∈ gT_ := gm_ 113 (by decide +kernel)
theorem w_232 : Cond.classLink "UrnHeap" 10 "UrnHeap$Refusals" ∈ gT_ := gm_ 232 (by decide +kernel)
theorem w_233 : Cond.instantiable "UrnHeap$Refusals" 2 ∈ gT_ := gm_ 233 (by decide +kernel)
theorem w_235 : Cond.instanceMethod yX8_init ∈ gT_ := gm_ 235 (by decide +kernel)
theorem w_247 : Cond.classLink "UrnHeap" 23 "UrnHeap$Hands" ∈ gT_ := gm_ 247 (by decide +kernel)
theorem w_248 : Cond.instantiable "UrnHeap$Hands" 2 ∈ gT_ := gm_ 248 (by decide +kernel)
theorem w_250 : Cond.instanceMethod yX1_init ∈ gT_ := gm_ 250 (by decide +kernel)
theorem w_249 : Cond.methodLink "UrnHeap" 25 yX1_init ∈ gT_ := gm_ 249 (by decide +kernel)
theorem w_260 : Cond.classLink "UrnHeap" 32 "UrnHeap$Sexton" ∈ gT_ := gm_ 260 (by decide +kernel)
theorem w_261 : Cond.instantiable "UrnHeap$Sexton" 2 ∈ gT_ := gm_ 261 (by decide +kernel)
theorem w_263 : Cond.instanceMethod yX10_init ∈ gT_ := gm_ 263 (by decide +kernel)
theorem w_262 : Cond.methodLink "UrnHeap" 34 yX10_init ∈ gT_ := gm_ 262 (by decide +kernel)
theorem w_273 : Cond.classLink "UrnHeap" 39 "UrnHeap$Paths" ∈ gT_ := gm_ 273 (by decide +kernel)
theorem w_274 : Cond.instantiable "UrnHeap$Paths" 2 ∈ gT_ := gm_ 274 (by decide +kernel)
theorem w_276 : Cond.instanceMethod yX7_init ∈ gT_ := gm_ 276 (by decide +kernel)
theorem w_275 : Cond.methodLink "UrnHeap" 41 yX7_init ∈ gT_ := gm_ 275 (by decide +kernel)
theorem w_286 : Cond.classLink "UrnHeap" 48 "UrnHeap$History" ∈ gT_ := gm_ 286 (by decide +kernel)
theorem w_287 : Cond.instantiable "UrnHeap$History" 6 ∈ gT_ := gm_ 287 (by decide +kernel)
theorem w_289 : Cond.instanceMethod yX3_init ∈ gT_ := gm_ 289 (by decide +kernel)
theorem w_288 : Cond.methodLink "UrnHeap" 50 yX3_init ∈ gT_ := gm_ 288 (by decide +kernel)
theorem w_315 : Cond.classLink "UrnHeap" 55 "UrnHeap$Orders" ∈ gT_ := gm_ 315 (by decide +kernel)
theorem w_316 : Cond.instantiable "UrnHeap$Orders" 8 ∈ gT_ := gm_ 316 (by decide +kernel)
theorem w_318 : Cond.instanceMethod yX6_init ∈ gT_ := gm_ 318 (by decide +kernel)
theorem w_385 : Cond.classLink "UrnHeap" 62 "UrnHeap$Line" ∈ gT_ := gm_ 385 (by decide +kernel)
theorem w_386 : Cond.instantiable "UrnHeap$Line" 1 ∈ gT_ := gm_ 386 (by decide +kernel)
theorem w_388 : Cond.instanceMethod yX5_init ∈ gT_ := gm_ 388 (by decide +kernel)
theorem w_328 : Cond.code yJ5_init_d00df cJ5_init_d00df 2 none ∈ gT_ := gm_ 328 (by decide +kernel)
theorem w_121 : Cond.code yX9_init cX9_init 1 none ∈ gT_ := gm_ 121 (by decide +kernel)
theorem w_135 : Cond.code yJ7_fill_53178 cJ7_fill_53178 4 none ∈ gT_ := gm_ 135 (by decide +kernel)
theorem w_325 : Cond.code yJ4_init_da8c8 cJ4_init_da8c8 1 none ∈ gT_ := gm_ 325 (by decide +kernel)
theorem w_115 : Cond.code yX2_init cX2_init 1 none ∈ gT_ := gm_ 115 (by decide +kernel)
theorem w_236 : Cond.code yX8_init cX8_init 1 none ∈ gT_ := gm_ 236 (by decide +kernel)
theorem w_251 : Cond.code yX1_init cX1_init 3 none ∈ gT_ := gm_ 251 (by decide +kernel)
theorem w_264 : Cond.code yX10_init cX10_init 3 none ∈ gT_ := gm_ 264 (by decide +kernel)
theorem w_277 : Cond.code yX7_init cX7_init 2 none ∈ gT_ := gm_ 277 (by decide +kernel)
theorem w_290 : Cond.code yX3_init cX3_init 3 none ∈ gT_ := gm_ 290 (by decide +kernel)
theorem w_319 : Cond.code yX6_init cX6_init 1 none ∈ gT_ := gm_ 319 (by decide +kernel)
theorem w_389 : Cond.code yX5_init cX5_init 1 none ∈ gT_ := gm_ 389 (by decide +kernel)
theorem ca_J5_init_d00df : ca_ yJ5_init_d00df cJ5_init_d00df 2 none 1 := ⟨w_87, w_328, by decide, by decide, by decide +kernel⟩
theorem ca_X9_init : ca_ yX9_init cX9_init 1 none 0 := ⟨w_79, w_121, by decide, by decide, by decide +kernel⟩
theorem ca_J7_fill_53178 : ca_ yJ7_fill_53178 cJ7_fill_53178 4 none 2 := ⟨w_80, w_135, by decide, by decide, by decide +kernel⟩
theorem cs_J7_fill_53178 : Cond.static yJ7_fill_53178 ∈ gT_ := w_134
theorem ca_J4_init_da8c8 : ca_ yJ4_init_da8c8 cJ4_init_da8c8 1 none 0 := ⟨w_88, w_325, by decide, by decide, by decide +kernel⟩
theorem ca_X2_init : ca_ yX2_init cX2_init 1 none 0 := ⟨w_78, w_115, by decide, by decide, by decide +kernel⟩
theorem ca_X8_init : ca_ yX8_init cX8_init 1 none 0 := ⟨w_81, w_236, by decide, by decide, by decide +kernel⟩
theorem ca_X1_init : ca_ yX1_init cX1_init 3 none 2 := ⟨w_82, w_251, by decide, by decide, by decide +kernel⟩
theorem ca_X10_init : ca_ yX10_init cX10_init 3 none 2 := ⟨w_83, w_264, by decide, by decide, by decide +kernel⟩
theorem ca_X7_init : ca_ yX7_init cX7_init 2 none 1 := ⟨w_84, w_277, by decide, by decide, by decide +kernel⟩
theorem ca_X3_init : ca_ yX3_init cX3_init 3 none 1 := ⟨w_85, w_290, by decide, by decide, by decide +kernel⟩
theorem ca_X6_init : ca_ yX6_init cX6_init 1 none 0 := ⟨w_86, w_319, by decide, by decide, by decide +kernel⟩
theorem ca_X5_init : ca_ yX5_init cX5_init 1 none 0 := ⟨w_91, w_389, by decide, by decide, by decide +kernel⟩
def cq_ (q : Nat) (u : Nat → Nat) : Nat → Nat := fun j => match j with
  | 0 => q
  | j + 1 => u (j + 1)
def hX2_ (G : gp_) (q : Nat) (v : Nat → Nat) : va_W := [(q, .inr (2, [.ref (v 1), .ref (v 2), .ref (v 3), .ref (v 4), .ref (v 5), .ref (v 6), .ref (v 7), .ref (v 8), .ref (v 10), .int (iI 0), .int (iI 0), .int (iI 0), .int (iI 0), .int (iI 0), .int (iI 0), .int (iI 0), .int (iI 0)])), ((v 1), .inl (G.1.1 100, 96, .inl (fun j => iI (fr_ 96 (-15) (j : Nat))))), ((v 2), .inl (G.1.1 100, 24, .inl (fun j => iI (fr_ 24 (-15) (j : Nat))))), ((v 3), .inl (G.1.1 100, 24, .inl (fun _ => iI 0))), ((v 4), .inl (G.1.1 100, 24, .inl (fun j => iI (fr_ 24 (-1) (j : Nat))))), ((v 5), .inl (G.1.1 100, 24, .inl (fun _ => iI 0))), ((v 6), .inl (G.1.1 100, 6, .inl (fun j => iI (fr_ 6 (-15) (j : Nat))))), ((v 7), .inl (G.1.1 100, 12, .inl (fun _ => iI 0))), ((v 8), .inr (8, [.ref (v 9), .int (iI 0)])), ((v 9), .inl (G.1.1 100, 24, .inl (fun _ => iI 0))), ((v 10), .inr (8, [.ref (v 11), .int (iI 0)])), ((v 11), .inl (G.1.1 100, 24, .inl (fun _ => iI 0)))]
def hL_ (G : gp_) (V : Nat → Nat → Nat) : Nat → va_W
  | 0 => hX2_ G (V 10 0) (V 10)
  | n + 1 => hL_ G V n ++ hX2_ G (V (n + 1) 0) (V (n + 1))
theorem hL_eq {G : gp_} {V V2 : Nat → Nat → Nat} : ∀ n : Nat, V 10 = V2 10 → (∀ h, 1 ≤ h → h ≤ n → V h = V2 h) → hL_ G V n = hL_ G V2 n
  | 0, h0, _ => by unfold hL_; rw [h0]
  | n + 1, h0, h1 => by
    unfold hL_
    rw [hL_eq n h0 (fun h a b => h1 h a (by omega)), h1 (n + 1) (by omega) (Nat.le_refl _)]
theorem wv_eq {G : gp_} {X : ct_} {ws ws2 : va_W} {k k2 n n2 pc : Nat} {lv : List (Nat × Value)} {st : List Value} (h : ws = ws2) (hk : k = k2) (hn : n = n2) (H : wv_ G X ws2 k2 n2 pc lv st) : wv_ G X ws k n pc lv st := by
  subst h
  subst hk
  subst hn
  exact H
def hX3_ (G : gp_) (r q p : Nat) (V : Nat → Nat → Nat) : va_W := [(q, .inr (3, [.ref r, .ref p, .ref (V 10 0), .int (iI 0), .int (iI 0), .int (iI 0)])), (p, .inl (G.1.1 102, 9, .inr (.inr (.inr (.inr (fun j => some (V (j + 1) 0)))))))] ++ hL_ G V 9
def hX11_ (G : gp_) (q : Nat) (U : Nat → Nat) (V : Nat → Nat → Nat) (O : Nat → Nat) : va_W := [(q, .inr (10, [.ref (U 0), .ref (O 1), .ref (O 2), .ref (O 3), .ref (O 4), .ref (O 6), .ref (O 8), .ref (O 16)]))] ++ (((((((hX2_ G (U 0) U ++ [((O 1), .inr (7, [.int (iI (-15)), .int (iI (-15))]))]) ++ [((O 2), .inr (1, [.ref (U 0), .ref (O 1)]))]) ++ [((O 3), .inr (9, [.ref (U 0), .ref (O 1)]))]) ++ [((O 4), .inr (6, [.ref (U 0), .ref (O 5)])), ((O 5), .inl (G.1.1 100, 24, .inl (fun _ => iI 0)))]) ++ hX3_ G (U 0) (O 6) (O 7) V) ++ [((O 8), .inr (5, [.ref (O 9), .ref (O 11), .ref (O 12), .ref (O 13), .ref (O 14), .int (iI 0), .ref (O 15), .int (iI 0)])), ((O 9), .inr (0, [.ref (O 10), .int (iI 0), .int (iI 0), .int (iI 0)])), ((O 10), .inl (G.1.1 101, (br_ 16 (-1)).toNat, .inl (fun j => iI (br_ 16 (j : Nat))))), ((O 11), .inl (G.1.1 103, 60, .inr (.inr (.inr (.inr (fun _ => none)))))), ((O 12), .inl (G.1.1 100, 60, .inl (fun _ => iI 0))), ((O 13), .inl (G.1.1 100, 60, .inl (fun _ => iI 0))), ((O 14), .inl (G.1.1 100, 60, .inl (fun _ => iI 0))), ((O 15), .inl (G.1.1 100, 3, .inl (fun _ => iI 0)))]) ++ [((O 16), .inr (4, [.ref (O 17)])), ((O 17), .inr (0, [.ref (O 18), .int (iI 0), .int (iI 0), .int (iI 0)])), ((O 18), .inl (G.1.1 101, (br_ 16 (-1)).toNat, .inl (fun j => iI (br_ 16 (j : Nat)))))])
theorem dJ7_fill_53178_0 : decode cJ7_fill_53178 0 = .ok (.iconst 0, 1) := by decide +kernel
theorem dJ7_fill_53178_1 : decode cJ7_fill_53178 1 = .ok (.istore_n 2, 1) := by decide +kernel
theorem dJ7_fill_53178_2 : decode cJ7_fill_53178 2 = .ok (.aload_n 0, 1) := by decide +kernel
theorem dJ7_fill_53178_3 : decode cJ7_fill_53178 3 = .ok (.arraylength, 1) := by decide +kernel
theorem dJ7_fill_53178_4 : decode cJ7_fill_53178 4 = .ok (.istore_n 3, 1) := by decide +kernel
theorem dJ7_fill_53178_5 : decode cJ7_fill_53178 5 = .ok (.iload_n 2, 1) := by decide +kernel
theorem dJ7_fill_53178_6 : decode cJ7_fill_53178 6 = .ok (.iload_n 3, 1) := by decide +kernel
theorem dJ7_fill_53178_7 : decode cJ7_fill_53178 7 = .ok (.if_icmp .ge 13, 3) := by decide +kernel
theorem dJ7_fill_53178_10 : decode cJ7_fill_53178 10 = .ok (.aload_n 0, 1) := by decide +kernel
theorem dJ7_fill_53178_11 : decode cJ7_fill_53178 11 = .ok (.iload_n 2, 1) := by decide +kernel
theorem dJ7_fill_53178_12 : decode cJ7_fill_53178 12 = .ok (.iload_n 1, 1) := by decide +kernel
theorem dJ7_fill_53178_13 : decode cJ7_fill_53178 13 = .ok (.iastore, 1) := by decide +kernel
theorem dJ7_fill_53178_14 : decode cJ7_fill_53178 14 = .ok (.iinc 2 1, 3) := by decide +kernel
theorem dJ7_fill_53178_17 : decode cJ7_fill_53178 17 = .ok (.goto (-12), 3) := by decide +kernel
theorem dJ7_fill_53178_20 : decode cJ7_fill_53178 20 = .ok (.return_, 1) := by decide +kernel
theorem i_fill {G : gp_} (n : Nat) (hn : n < 10000) (v : Int) : mc_ yJ7_fill_53178 cJ7_fill_53178 4 ({ frames := 0, cells := 0, slots := 0, locals := 0 } : Room) G [.int (iI v)] (.inl (G.1.1 100, n, .inl (fun _ => iI 0))) (S := Unit) (fun q _ => [(q, .inl (G.1.1 100, n, .inl (fun j => iI (fr_ n v (j : Nat)))))]) := by
  refine mc_in (own := "java/util/Arrays") (by decide) rfl (fun _ => (Nat.le_of_ble_eq_true rfl)) (fun X q C NI E => ?_)
  refine xx_mu (N := 1) (ad' := fun _ => q) (ce' := fun _ row => .inl (G.1.1 100, n, .inl (fun j => iI (row (j : Nat))))) (μ' := fun _ => fr_ 0 v) (fun k hk => by
    have hk0 : k = 0 := by omega
    subst hk0
    refine ⟨rfl, ?_⟩
    show (Sum.inl (G.1.1 100, n, .inl (fun _ => iI 0)) : va_E) = Sum.inl (G.1.1 100, n, .inl (fun j : Nat => iI (fr_ 0 v (j : Int))))
    have e : (fun j : Nat => iI (fr_ 0 v (j : Int))) = fun _ => iI 0 := by
      funext j
      unfold fr_
      rw [if_neg (by omega)]
    rw [e]) ?_
  have hL : ∀ (m i : Nat), i + m = n → wx_ G X 1 (fun _ => q) (fun _ row => .inl (G.1.1 100, n, .inl (fun j => iI (row (j : Nat))))) (fun _ => fr_ i v) 0 0 5 [(3, .int (iI n)), (2, .int (iI i)), (0, .ref q), (1, .int (iI v))] [] := by
    intro m
    induction m with
    | zero =>
      intro i hi
      have hi0 : i = n := by omega
      subst hi0
      refine xx_iload_n C 6 rfl 1 dJ7_fill_53178_5 rfl rfl ?_
      refine xx_iload_n C 7 rfl 0 dJ7_fill_53178_6 rfl rfl ?_
      refine xx_icmp_ge (tgt := 20) (t := some ()) (f := none) (r := ()) C 10 rfl dJ7_fill_53178_7 (by decide) (by unfold lt_; rw [if_pos ⟨⟨by omega, by omega⟩, by omega, by omega⟩, if_neg (by omega)]) (fun _ => ?_) (fun h => nn_ h)
      refine xx_mu (N := 1) (ad' := aL_ [(q, .inl (G.1.1 100, i, .inl (fun j => iI (fr_ i v (j : Nat)))))]) (ce' := cL_ [(q, .inl (G.1.1 100, i, .inl (fun j => iI (fr_ i v (j : Nat)))))]) (μ' := mz_) (fun k hk => by
        have hk0 : k = 0 := by omega
        subst hk0
        exact ⟨rfl, rfl⟩) ?_
      exact xv_ret (w := fun _ => [(q, .inl (G.1.1 100, i, .inl (fun j => iI (fr_ i v (j : Nat)))))]) C E rfl () ⟨(Nat.le_of_ble_eq_true rfl), (Nat.le_of_ble_eq_true rfl)⟩ dJ7_fill_53178_20
    | succ m ih =>
      intro i hi
      refine xx_iload_n C 6 rfl 1 dJ7_fill_53178_5 rfl rfl ?_
      refine xx_iload_n C 7 rfl 0 dJ7_fill_53178_6 rfl rfl ?_
      refine xx_icmp_ge (tgt := 20) (t := none) (f := some ()) (r := ()) C 10 rfl dJ7_fill_53178_7 (by decide) (by unfold lt_; rw [if_pos ⟨⟨by omega, by omega⟩, by omega, by omega⟩, if_pos (by omega)]) (fun h => nn_ h) (fun _ => ?_)
      refine xx_aload_n C 11 rfl 2 dJ7_fill_53178_10 rfl rfl ?_
      refine xx_iload_n C 12 rfl 1 dJ7_fill_53178_11 rfl rfl ?_
      refine xx_iload_n C 13 rfl 3 dJ7_fill_53178_12 rfl rfl ?_
      refine xx_iastore (nA := n) (q := 0) (f := fun μ1 => if True then some μ1 else none) (r := st_ (fun _ => fr_ i v) 0 i v) C 14 rfl (by decide) (fun _ => rfl) (by omega) dJ7_fill_53178_13 (by unfold wr_; rw [if_pos ⟨by omega, by omega⟩]; exact if_pos trivial) (fun μ1 h1 => ?_)
      rw [if_pos trivial] at h1
      obtain rfl := Option.some.inj h1
      refine xx_iincn (f := fun z => if z = (i + 1 : Nat) then some () else none) (r := ()) C 17 rfl 1 (by decide) dJ7_fill_53178_14 rfl (by unfold nm_; exact if_pos (by omega)) (fun z hz => ?_)
      obtain rfl := (ck_e hz).1
      refine xx_goto C 5 dJ7_fill_53178_17 (by decide) ?_
      refine xx_lv (lv1 := [(2, .int (iI (i + 1 : Nat))), (3, .int (iI n)), (0, .ref q), (1, .int (iI v))]) rfl ?_
      refine xx_sub [1, 0, 2, 3] rfl ?_
      refine xx_mu (N := 1) (ad' := fun _ => q) (ce' := fun _ row => .inl (G.1.1 100, n, .inl (fun j => iI (row (j : Nat))))) (μ' := fun _ => fr_ (i + 1) v) (fun k hk => ⟨rfl, ?_⟩) (ih (i + 1) (by omega))
      have hk0 : k = 0 := by omega
      subst hk0
      have e : (st_ (fun _ => fr_ i v) 0 i v) 0 = fr_ (i + 1) v := by
        unfold st_
        rw [um_self]
        funext j
        show (if j = i then v else if 0 ≤ j ∧ j < i then v else 0) = if 0 ≤ j ∧ j < (i + 1 : Nat) then v else 0
        by_cases h2 : j = i
        · rw [if_pos h2, if_pos (by omega)]
        · rw [if_neg h2]
          by_cases h3 : 0 ≤ j ∧ j < i
          · rw [if_pos h3, if_pos (by omega)]
          · rw [if_neg h3, if_neg (by omega)]
      rw [e]
  refine xx_iconst C 1 rfl dJ7_fill_53178_0 ?_
  refine xx_istore_n (lv1 := [(2, .int (iI 0)), (0, .ref q), (1, .int (iI v))]) C 2 rfl (by decide) dJ7_fill_53178_1 rfl rfl ?_
  refine xx_aload_n C 3 rfl 1 dJ7_fill_53178_2 rfl rfl ?_
  refine xx_alen (q := 0) (nA := n) C 4 rfl (by decide) (fun _ => rfl) dJ7_fill_53178_3 ?_
  refine xx_istore_n (lv1 := [(3, .int (iI n)), (2, .int (iI 0)), (0, .ref q), (1, .int (iI v))]) C 5 rfl (by decide) dJ7_fill_53178_4 rfl rfl ?_
  exact hL n 0 (by omega)
