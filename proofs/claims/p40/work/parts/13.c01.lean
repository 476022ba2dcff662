/-! constructors (written by wip/gen/cgen.py) -/
theorem w_271 : Cond.methodLink "java/lang/AbstractStringBuilder" 3 Lib.objectInit ∈ gT_ := gm_ 271 (by decide +kernel)
theorem w_56 : Cond.instanceMethod Lib.objectInit ∈ gT_ := gm_ 56 (by decide +kernel)
theorem w_57 : Cond.code Lib.objectInit ⟨#[0xb1]⟩ 1 none ∈ gT_ := gm_ 57 (by decide +kernel)
theorem w_269 : Cond.instanceMethod yJ5_init_d00df ∈ gT_ := gm_ 269 (by decide +kernel)
theorem w_268 : Cond.methodLink "java/lang/StringBuilder" 1 yJ5_init_d00df ∈ gT_ := gm_ 268 (by decide +kernel)
theorem w_69 : Cond.methodLink "UrnHeap$Row" 3 Lib.objectInit ∈ gT_ := gm_ 69 (by decide +kernel)
theorem w_79 : Cond.arrayClass .int ∈ gT_ := gm_ 79 (by decide +kernel)
theorem w_181 : Cond.methodLink "UrnHeap$Refusals" 3 Lib.objectInit ∈ gT_ := gm_ 181 (by decide +kernel)
theorem w_194 : Cond.methodLink "UrnHeap$Hands" 3 Lib.objectInit ∈ gT_ := gm_ 194 (by decide +kernel)
theorem w_207 : Cond.methodLink "UrnHeap$Sexton" 3 Lib.objectInit ∈ gT_ := gm_ 207 (by decide +kernel)
theorem w_220 : Cond.methodLink "UrnHeap$Paths" 3 Lib.objectInit ∈ gT_ := gm_ 220 (by decide +kernel)
theorem w_63 : Cond.methodLink "UrnHeap$Heap" 3 Lib.objectInit ∈ gT_ := gm_ 63 (by decide +kernel)
theorem w_64 : Cond.classLink "UrnHeap$Heap" 33 "UrnHeap$Row" ∈ gT_ := gm_ 64 (by decide +kernel)
theorem w_65 : Cond.instantiable "UrnHeap$Row" 2 ∈ gT_ := gm_ 65 (by decide +kernel)
theorem w_67 : Cond.instanceMethod yX9_init ∈ gT_ := gm_ 67 (by decide +kernel)
theorem w_81 : Cond.static yJ7_fill_53178 ∈ gT_ := gm_ 81 (by decide +kernel)
theorem w_80 : Cond.methodLink "UrnHeap$Heap" 68 yJ7_fill_53178 ∈ gT_ := gm_ 80 (by decide +kernel)
theorem w_262 : Cond.methodLink "UrnHeap$Orders" 3 Lib.objectInit ∈ gT_ := gm_ 262 (by decide +kernel)
theorem w_263 : Cond.classLink "UrnHeap$Orders" 9 "java/lang/StringBuilder" ∈ gT_ := gm_ 263 (by decide +kernel)
theorem w_264 : Cond.instantiable "java/lang/StringBuilder" 4 ∈ gT_ := gm_ 264 (by decide +kernel)
theorem w_266 : Cond.instanceMethod yJ4_init_da8c8 ∈ gT_ := gm_ 266 (by decide +kernel)
theorem w_265 : Cond.methodLink "UrnHeap$Orders" 11 yJ4_init_da8c8 ∈ gT_ := gm_ 265 (by decide +kernel)
theorem w_296 : Cond.classLink "UrnHeap$Orders" 18 "UrnHeap$Kind" ∈ gT_ := gm_ 296 (by decide +kernel)
theorem w_333 : Cond.methodLink "UrnHeap$Line" 3 Lib.objectInit ∈ gT_ := gm_ 333 (by decide +kernel)
theorem w_334 : Cond.classLink "UrnHeap$Line" 9 "java/lang/StringBuilder" ∈ gT_ := gm_ 334 (by decide +kernel)
theorem w_335 : Cond.methodLink "UrnHeap$Line" 11 yJ4_init_da8c8 ∈ gT_ := gm_ 335 (by decide +kernel)
theorem w_336 : Cond.fieldLink "UrnHeap$Line" 12 "UrnHeap$Line" "signs" "Ljava/lang/StringBuilder;" ∈ gT_ := gm_ 336 (by decide +kernel)
theorem w_233 : Cond.methodLink "UrnHeap$History" 3 Lib.objectInit ∈ gT_ := gm_ 233 (by decide +kernel)
theorem w_234 : Cond.classLink "UrnHeap$History" 9 "UrnHeap$Heap" ∈ gT_ := gm_ 234 (by decide +kernel)
theorem w_59 : Cond.instantiable "UrnHeap$Heap" 17 ∈ gT_ := gm_ 59 (by decide +kernel)
theorem w_61 : Cond.instanceMethod yX2_init ∈ gT_ := gm_ 61 (by decide +kernel)
theorem w_236 : Cond.methodLink "UrnHeap$History" 17 yX2_init ∈ gT_ := gm_ 236 (by decide +kernel)
theorem w_55 : Cond.methodLink "UrnHeap" 1 Lib.objectInit ∈ gT_ := gm_ 55 (by decide +kernel)
theorem w_58 : Cond.classLink "UrnHeap" 7 "UrnHeap$Heap" ∈ gT_ := gm_ 58 (by decide +kernel)
theorem w_60 : Cond.methodLink "UrnHeap" 9 yX2_init ∈ gT_ := gm_ 60 (by decide +kernel)
theorem w_176 : Cond.classLink "UrnHeap" 10 "UrnHeap$Refusals" ∈ gT_ := gm_ 176 (by decide +kernel)
theorem w_177 : Cond.instantiable "UrnHeap$Refusals" 2 ∈ gT_ := gm_ 177 (by decide +kernel)
theorem w_179 : Cond.instanceMethod yX8_init ∈ gT_ := gm_ 179 (by decide +kernel)
theorem w_189 : Cond.classLink "UrnHeap" 23 "UrnHeap$Hands" ∈ gT_ := gm_ 189 (by decide +kernel)
theorem w_190 : Cond.instantiable "UrnHeap$Hands" 2 ∈ gT_ := gm_ 190 (by decide +kernel)
theorem w_192 : Cond.instanceMethod yX1_init ∈ gT_ := gm_ 192 (by decide +kernel)
theorem w_191 : Cond.methodLink "UrnHeap" 25 yX1_init ∈ gT_ := gm_ 191 (by decide +kernel)
theorem w_202 : Cond.classLink "UrnHeap" 32 "UrnHeap$Sexton" ∈ gT_ := gm_ 202 (by decide +kernel)
theorem w_203 : Cond.instantiable "UrnHeap$Sexton" 2 ∈ gT_ := gm_ 203 (by decide +kernel)
theorem w_205 : Cond.instanceMethod yX10_init ∈ gT_ := gm_ 205 (by decide +kernel)
theorem w_204 : Cond.methodLink "UrnHeap" 34 yX10_init ∈ gT_ := gm_ 204 (by decide +kernel)
theorem w_215 : Cond.classLink "UrnHeap" 39 "UrnHeap$Paths" ∈ gT_ := gm_ 215 (by decide +kernel)
theorem w_216 : Cond.instantiable "UrnHeap$Paths" 2 ∈ gT_ := gm_ 216 (by decide +kernel)
theorem w_218 : Cond.instanceMethod yX7_init ∈ gT_ := gm_ 218 (by decide +kernel)
theorem w_217 : Cond.methodLink "UrnHeap" 41 yX7_init ∈ gT_ := gm_ 217 (by decide +kernel)
theorem w_228 : Cond.classLink "UrnHeap" 48 "UrnHeap$History" ∈ gT_ := gm_ 228 (by decide +kernel)
theorem w_229 : Cond.instantiable "UrnHeap$History" 6 ∈ gT_ := gm_ 229 (by decide +kernel)
theorem w_231 : Cond.instanceMethod yX3_init ∈ gT_ := gm_ 231 (by decide +kernel)
theorem w_230 : Cond.methodLink "UrnHeap" 50 yX3_init ∈ gT_ := gm_ 230 (by decide +kernel)
theorem w_257 : Cond.classLink "UrnHeap" 55 "UrnHeap$Orders" ∈ gT_ := gm_ 257 (by decide +kernel)
theorem w_258 : Cond.instantiable "UrnHeap$Orders" 8 ∈ gT_ := gm_ 258 (by decide +kernel)
theorem w_260 : Cond.instanceMethod yX6_init ∈ gT_ := gm_ 260 (by decide +kernel)
theorem w_328 : Cond.classLink "UrnHeap" 62 "UrnHeap$Line" ∈ gT_ := gm_ 328 (by decide +kernel)
theorem w_329 : Cond.instantiable "UrnHeap$Line" 1 ∈ gT_ := gm_ 329 (by decide +kernel)
theorem w_39 : Cond.initialized "UrnHeap$Line" ∈ gT_ := gm_ 39 (by decide +kernel)
theorem w_331 : Cond.instanceMethod yX5_init ∈ gT_ := gm_ 331 (by decide +kernel)
theorem w_347 : Cond.fieldLink "UrnHeap" 65 "UrnHeap" "line" "LUrnHeap$Line;" ∈ gT_ := gm_ 347 (by decide +kernel)
theorem w_270 : Cond.code yJ5_init_d00df cJ5_init_d00df 2 none ∈ gT_ := gm_ 270 (by decide +kernel)
theorem w_68 : Cond.code yX9_init cX9_init 1 none ∈ gT_ := gm_ 68 (by decide +kernel)
theorem w_82 : Cond.code yJ7_fill_53178 cJ7_fill_53178 4 none ∈ gT_ := gm_ 82 (by decide +kernel)
theorem w_267 : Cond.code yJ4_init_da8c8 cJ4_init_da8c8 1 none ∈ gT_ := gm_ 267 (by decide +kernel)
theorem w_62 : Cond.code yX2_init cX2_init 1 none ∈ gT_ := gm_ 62 (by decide +kernel)
theorem w_180 : Cond.code yX8_init cX8_init 1 none ∈ gT_ := gm_ 180 (by decide +kernel)
theorem w_193 : Cond.code yX1_init cX1_init 3 none ∈ gT_ := gm_ 193 (by decide +kernel)
theorem w_206 : Cond.code yX10_init cX10_init 3 none ∈ gT_ := gm_ 206 (by decide +kernel)
theorem w_219 : Cond.code yX7_init cX7_init 2 none ∈ gT_ := gm_ 219 (by decide +kernel)
theorem w_232 : Cond.code yX3_init cX3_init 3 none ∈ gT_ := gm_ 232 (by decide +kernel)
theorem w_261 : Cond.code yX6_init cX6_init 1 none ∈ gT_ := gm_ 261 (by decide +kernel)
theorem w_332 : Cond.code yX5_init cX5_init 1 none ∈ gT_ := gm_ 332 (by decide +kernel)
theorem ca_J5_init_d00df : ca_ yJ5_init_d00df cJ5_init_d00df 2 none 1 := ⟨w_35, w_270, by decide, by decide, by decide +kernel⟩
theorem ca_X9_init : ca_ yX9_init cX9_init 1 none 0 := ⟨w_27, w_68, by decide, by decide, by decide +kernel⟩
theorem ca_J7_fill_53178 : ca_ yJ7_fill_53178 cJ7_fill_53178 4 none 2 := ⟨w_28, w_82, by decide, by decide, by decide +kernel⟩
theorem cs_J7_fill_53178 : Cond.static yJ7_fill_53178 ∈ gT_ := w_81
theorem ca_J4_init_da8c8 : ca_ yJ4_init_da8c8 cJ4_init_da8c8 1 none 0 := ⟨w_36, w_267, by decide, by decide, by decide +kernel⟩
theorem ca_X2_init : ca_ yX2_init cX2_init 1 none 0 := ⟨w_26, w_62, by decide, by decide, by decide +kernel⟩
theorem ca_X8_init : ca_ yX8_init cX8_init 1 none 0 := ⟨w_29, w_180, by decide, by decide, by decide +kernel⟩
theorem ca_X1_init : ca_ yX1_init cX1_init 3 none 2 := ⟨w_30, w_193, by decide, by decide, by decide +kernel⟩
theorem ca_X10_init : ca_ yX10_init cX10_init 3 none 2 := ⟨w_31, w_206, by decide, by decide, by decide +kernel⟩
theorem ca_X7_init : ca_ yX7_init cX7_init 2 none 1 := ⟨w_32, w_219, by decide, by decide, by decide +kernel⟩
theorem ca_X3_init : ca_ yX3_init cX3_init 3 none 1 := ⟨w_33, w_232, by decide, by decide, by decide +kernel⟩
theorem ca_X6_init : ca_ yX6_init cX6_init 1 none 0 := ⟨w_34, w_261, by decide, by decide, by decide +kernel⟩
theorem ca_X5_init : ca_ yX5_init cX5_init 1 none 0 := ⟨w_39, w_332, by decide, by decide, by decide +kernel⟩
def cq_ (q : Nat) (u : Nat → Nat) : Nat → Nat := fun j => match j with
  | 0 => q
  | j + 1 => u (j + 1)
def hX2_ (G : gp_) (q : Nat) (v : Nat → Nat) : va_W := [(q, .inr (3, [.ref (v 1), .ref (v 2), .ref (v 3), .ref (v 4), .ref (v 5), .ref (v 6), .ref (v 7), .ref (v 8), .ref (v 10), .int (iI 0), .int (iI 0), .int (iI 0), .int (iI 0), .int (iI 0), .int (iI 0), .int (iI 0), .int (iI 0)])), ((v 1), .inl (G.1.1 100, 96, .inl (fun j => iI (fr_ 96 (-15) (j : Nat))))), ((v 2), .inl (G.1.1 100, 24, .inl (fun j => iI (fr_ 24 (-15) (j : Nat))))), ((v 3), .inl (G.1.1 100, 24, .inl (fun _ => iI 0))), ((v 4), .inl (G.1.1 100, 24, .inl (fun j => iI (fr_ 24 (-1) (j : Nat))))), ((v 5), .inl (G.1.1 100, 24, .inl (fun _ => iI 0))), ((v 6), .inl (G.1.1 100, 6, .inl (fun j => iI (fr_ 6 (-15) (j : Nat))))), ((v 7), .inl (G.1.1 100, 12, .inl (fun _ => iI 0))), ((v 8), .inr (9, [.ref (v 9), .int (iI 0)])), ((v 9), .inl (G.1.1 100, 24, .inl (fun _ => iI 0))), ((v 10), .inr (9, [.ref (v 11), .int (iI 0)])), ((v 11), .inl (G.1.1 100, 24, .inl (fun _ => iI 0)))]
def hL_ (G : gp_) (V : Nat → Nat → Nat) : Nat → va_W
  | 0 => hX2_ G (V 10 0) (V 10)
  | n + 1 => hL_ G V n ++ hX2_ G (V (n + 1) 0) (V (n + 1))
theorem hL_eq {G : gp_} {V V2 : Nat → Nat → Nat} : ∀ n : Nat, V 10 = V2 10 → (∀ h, 1 ≤ h → h ≤ n → V h = V2 h) → hL_ G V n = hL_ G V2 n
  | 0, h0, _ => by unfold hL_; rw [h0]
  | n + 1, h0, h1 => by
    unfold hL_
    rw [hL_eq n h0 (fun h a b => h1 h a (by omega)), h1 (n + 1) (by omega) (Nat.le_refl _)]
theorem wv_eq {G : gp_} {X : ct_} {ws ws2 : va_W} {k k2 n n2 pc : Nat} {lv : List (Nat × Value)} {st : List Value} (h : ws = ws2) (hk : k = k2) (hn : n = n2) (H : wv_ G X ws2 k2 n2 pc lv st) : wv_ G X ws k n pc lv st := by
  subst h
  subst hk
  subst hn
  exact H
def hX3_ (G : gp_) (r q p : Nat) (V : Nat → Nat → Nat) : va_W := [(q, .inr (4, [.ref r, .ref p, .ref (V 10 0), .int (iI 0), .int (iI 0), .int (iI 0)])), (p, .inl (G.1.1 102, 9, .inr (.inr (.inr (.inr (fun j => some (V (j + 1) 0)))))))] ++ hL_ G V 9
def hX11_ (G : gp_) (q : Nat) (U : Nat → Nat) (V : Nat → Nat → Nat) (O : Nat → Nat) : va_W := [(q, .inr (11, [.ref (U 0), .ref (O 1), .ref (O 2), .ref (O 3), .ref (O 4), .ref (O 6), .ref (O 8), .ref (O 16)]))] ++ (((((((hX2_ G (U 0) U ++ [((O 1), .inr (8, [.int (iI (-15)), .int (iI (-15))]))]) ++ [((O 2), .inr (2, [.ref (U 0), .ref (O 1)]))]) ++ [((O 3), .inr (10, [.ref (U 0), .ref (O 1)]))]) ++ [((O 4), .inr (7, [.ref (U 0), .ref (O 5)])), ((O 5), .inl (G.1.1 100, 24, .inl (fun _ => iI 0)))]) ++ hX3_ G (U 0) (O 6) (O 7) V) ++ [((O 8), .inr (6, [.ref (O 9), .ref (O 11), .ref (O 12), .ref (O 13), .ref (O 14), .int (iI 0), .ref (O 15), .int (iI 0)])), ((O 9), .inr (1, [.ref (O 10), .int (iI 0), .int (iI 0), .int (iI 0)])), ((O 10), .inl (G.1.1 101, (br_ 16 (-1)).toNat, .inl (fun j => iI (br_ 16 (j : Nat))))), ((O 11), .inl (G.1.1 103, 60, .inr (.inr (.inr (.inr (fun _ => none)))))), ((O 12), .inl (G.1.1 100, 60, .inl (fun _ => iI 0))), ((O 13), .inl (G.1.1 100, 60, .inl (fun _ => iI 0))), ((O 14), .inl (G.1.1 100, 60, .inl (fun _ => iI 0))), ((O 15), .inl (G.1.1 100, 3, .inl (fun _ => iI 0)))]) ++ [((O 16), .inr (5, [.ref (O 17)])), ((O 17), .inr (1, [.ref (O 18), .int (iI 0), .int (iI 0), .int (iI 0)])), ((O 18), .inl (G.1.1 101, (br_ 16 (-1)).toNat, .inl (fun j => iI (br_ 16 (j : Nat)))))])
theorem dJ7_fill_53178_0 : decode cJ7_fill_53178 0 = .ok (.iconst 0, 1) := by decide +kernel
theorem dJ7_fill_53178_1 : decode cJ7_fill_53178 1 = .ok (.istore_n 2, 1) := by decide +kernel
theorem dJ7_fill_53178_2 : decode cJ7_fill_53178 2 = .ok (.aload_n 0, 1) := by decide +kernel
theorem dJ7_fill_53178_3 : decode cJ7_fill_53178 3 = .ok (.arraylength, 1) := by decide +kernel
theorem dJ7_fill_53178_4 : decode cJ7_fill_53178 4 = .ok (.istore_n 3, 1) := by decide +kernel
theorem dJ7_fill_53178_5 : decode cJ7_fill_53178 5 = .ok (.iload_n 2, 1) := by decide +kernel
theorem dJ7_fill_53178_6 : decode cJ7_fill_53178 6 = .ok (.iload_n 3, 1) := by decide +kernel
theorem dJ7_fill_53178_7 : decode cJ7_fill_53178 7 = .ok (.if_icmp .ge 13, 3) := by decide +kernel
theorem dJ7_fill_53178_10 : decode cJ7_fill_53178 10 = .ok (.aload_n 0, 1) := by decide +kernel
theorem dJ7_fill_53178_11 : decode cJ7_fill_53178 11 = .ok (.iload_n 2, 1) := by decide +kernel
theorem dJ7_fill_53178_12 : decode cJ7_fill_53178 12 = .ok (.iload_n 1, 1) := by decide +kernel
theorem dJ7_fill_53178_13 : decode cJ7_fill_53178 13 = .ok (.iastore, 1) := by decide +kernel
theorem dJ7_fill_53178_14 : decode cJ7_fill_53178 14 = .ok (.iinc 2 1, 3) := by decide +kernel
theorem dJ7_fill_53178_17 : decode cJ7_fill_53178 17 = .ok (.goto (-12), 3) := by decide +kernel
theorem dJ7_fill_53178_20 : decode cJ7_fill_53178 20 = .ok (.return_, 1) := by decide +kernel
theorem i_fill {G : gp_} (n : Nat) (hn : n < 10000) (v : Int) : mc_ yJ7_fill_53178 cJ7_fill_53178 4 ({ frames := 0, cells := 0, slots := 0, locals := 0 } : Room) G [.int (iI v)] (.inl (G.1.1 100, n, .inl (fun _ => iI 0))) (S := Unit) (fun q _ => [(q, .inl (G.1.1 100, n, .inl (fun j => iI (fr_ n v (j : Nat)))))]) := by
  refine mc_in (own := "java/util/Arrays") (by decide) rfl (fun _ => (Nat.le_of_ble_eq_true rfl)) (fun X q C NI E => ?_)
  refine xx_mu (N := 1) (ad' := fun _ => q) (ce' := fun _ row => .inl (G.1.1 100, n, .inl (fun j => iI (row (j : Nat))))) (μ' := fun _ => fr_ 0 v) (fun k hk => by
    have hk0 : k = 0 := by omega
    subst hk0
    refine ⟨rfl, ?_⟩
    show (Sum.inl (G.1.1 100, n, .inl (fun _ => iI 0)) : va_E) = Sum.inl (G.1.1 100, n, .inl (fun j : Nat => iI (fr_ 0 v (j : Int))))
    have e : (fun j : Nat => iI (fr_ 0 v (j : Int))) = fun _ => iI 0 := by
      funext j
      unfold fr_
      rw [if_neg (by omega)]
    rw [e]) ?_
  have hL : ∀ (m i : Nat), i + m = n → wx_ G X 1 (fun _ => q) (fun _ row => .inl (G.1.1 100, n, .inl (fun j => iI (row (j : Nat))))) (fun _ => fr_ i v) 0 0 5 [(3, .int (iI n)), (2, .int (iI i)), (0, .ref q), (1, .int (iI v))] [] := by
    intro m
    induction m with
    | zero =>
      intro i hi
      have hi0 : i = n := by omega
      subst hi0
      refine xx_iload_n C 6 rfl 1 dJ7_fill_53178_5 rfl rfl ?_
      refine xx_iload_n C 7 rfl 0 dJ7_fill_53178_6 rfl rfl ?_
      refine xx_icmp_ge (tgt := 20) (t := some ()) (f := none) (r := ()) C 10 rfl dJ7_fill_53178_7 (by decide) (by unfold lt_; rw [if_pos ⟨⟨by omega, by omega⟩, by omega, by omega⟩, if_neg (by omega)]) (fun _ => ?_) (fun h => nn_ h)
      refine xx_mu (N := 1) (ad' := aL_ [(q, .inl (G.1.1 100, i, .inl (fun j => iI (fr_ i v (j : Nat)))))]) (ce' := cL_ [(q, .inl (G.1.1 100, i, .inl (fun j => iI (fr_ i v (j : Nat)))))]) (μ' := mz_) (fun k hk => by
        have hk0 : k = 0 := by omega
        subst hk0
        exact ⟨rfl, rfl⟩) ?_
      exact xv_ret (w := fun _ => [(q, .inl (G.1.1 100, i, .inl (fun j => iI (fr_ i v (j : Nat)))))]) C E rfl () ⟨(Nat.le_of_ble_eq_true rfl), (Nat.le_of_ble_eq_true rfl)⟩ dJ7_fill_53178_20
    | succ m ih =>
      intro i hi
      refine xx_iload_n C 6 rfl 1 dJ7_fill_53178_5 rfl rfl ?_
      refine xx_iload_n C 7 rfl 0 dJ7_fill_53178_6 rfl rfl ?_
      refine xx_icmp_ge (tgt := 20) (t := none) (f := some ()) (r := ()) C 10 rfl dJ7_fill_53178_7 (by decide) (by unfold lt_; rw [if_pos ⟨⟨by omega, by omega⟩, by omega, by omega⟩, if_pos (by omega)]) (fun h => nn_ h) (fun _ => ?_)
      refine xx_aload_n C 11 rfl 2 dJ7_fill_53178_10 rfl rfl ?_
      refine xx_iload_n C 12 rfl 1 dJ7_fill_53178_11 rfl rfl ?_
      refine xx_iload_n C 13 rfl 3 dJ7_fill_53178_12 rfl rfl ?_
      refine xx_iastore (nA := n) (q := 0) (f := fun μ1 => if True then some μ1 else none) (r := st_ (fun _ => fr_ i v) 0 i v) C 14 rfl (by decide) (fun _ => rfl) (by omega) dJ7_fill_53178_13 (by unfold wr_; rw [if_pos ⟨by omega, by omega⟩]; exact if_pos trivial) (fun μ1 h1 => ?_)
      rw [if_pos trivial] at h1
      obtain rfl := Option.some.inj h1
      refine xx_iincn (f := fun z => if z = (i + 1 : Nat) then some () else none) (r := ()) C 17 rfl 1 (by decide) dJ7_fill_53178_14 rfl (by unfold nm_; exact if_pos (by omega)) (fun z hz => ?_)
      obtain rfl := (ck_e hz).1
      refine xx_goto C 5 dJ7_fill_53178_17 (by decide) ?_
      refine xx_lv (lv1 := [(2, .int (iI (i + 1 : Nat))), (3, .int (iI n)), (0, .ref q), (1, .int (iI v))]) rfl ?_
      refine xx_sub [1, 0, 2, 3] rfl ?_
      refine xx_mu (N := 1) (ad' := fun _ => q) (ce' := fun _ row => .inl (G.1.1 100, n, .inl (fun j => iI (row (j : Nat))))) (μ' := fun _ => fr_ (i + 1) v) (fun k hk => ⟨rfl, ?_⟩) (ih (i + 1) (by omega))
      have hk0 : k = 0 := by omega
      subst hk0
      have e : (st_ (fun _ => fr_ i v) 0 i v) 0 = fr_ (i + 1) v := by
        unfold st_
        rw [um_self]
        funext j
        show (if j = i then v else if 0 ≤ j ∧ j < i then v else 0) = if 0 ≤ j ∧ j < (i + 1 : Nat) then v else 0
        by_cases h2 : j = i
        · rw [if_pos h2, if_pos (by omega)]
        · rw [if_neg h2]
          by_cases h3 : 0 ≤ j ∧ j < i
          · rw [if_pos h3, if_pos (by omega)]
          · rw [if_neg h3, if_neg (by omega)]
      rw [e]
  refine xx_iconst C 1 rfl dJ7_fill_53178_0 ?_
  refine xx_istore_n (lv1 := [(2, .int (iI 0)), (0, .ref q), (1, .int (iI v))]) C 2 rfl (by decide) dJ7_fill_53178_1 rfl rfl ?_
  refine xx_aload_n C 3 rfl 1 dJ7_fill_53178_2 rfl rfl ?_
  refine xx_alen (q := 0) (nA := n) C 4 rfl (by decide) (fun _ => rfl) dJ7_fill_53178_3 ?_
  refine xx_istore_n (lv1 := [(3, .int (iI n)), (2, .int (iI 0)), (0, .ref q), (1, .int (iI v))]) C 5 rfl (by decide) dJ7_fill_53178_4 rfl rfl ?_
  exact hL n 0 (by omega)
