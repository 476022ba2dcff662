set_option maxHeartbeats 4000000 in
theorem lc_urn {G : gp_} {X : ct_} {ad adM : Nat → Nat} {b L i p q k n : Nat} {xs : Nat → Int32} {μ ν μ1 ν1 : mu_T} {nl : Nat} {ret9 : Option FieldType} (C : cx_ G X code "UrnHeapLaw" room_1 ret9 8) (Sx : sx_ X b L xs) (hi : i + 4 ≤ L) (hL : L ≤ 2048) (hk : k + 25 ≤ 600000 ∧ n + 1750 ≤ 7302250) {r : Int} (hX : f_X11_urn μ (bv_ (sv_ xs i 1)) = some (r, μ1)) (hM : f_X12_urn ν (bv_ (sv_ xs i 1)) = some (r, ν1)) (next : ∀ p q k2 n2, k2 ≤ k + 25 → n2 ≤ n + 1750 → wy_ G X ad adM p q μ1 ν1 k2 n2 1067 [(3, .int (iI (i : Nat))), (0, .ref b), (1, .ref (ad 132)), (2, .ref (adM 0))] []) : wy_ G X ad adM p q μ ν k n 196 [(3, .int (iI (i : Nat))), (0, .ref b), (1, .ref (ad 132)), (2, .ref (adM 0))] [] := by
  refine xx_aload_n C 197 rfl 2 dL_law_196 rfl rfl ?_
  refine xx_aload_n C 198 rfl 1 dL_law_197 rfl rfl ?_
  refine xx_iload_n C 199 rfl 0 dL_law_198 rfl rfl ?_
  refine xx_iconst C 200 rfl dL_law_199 ?_
  refine xx_iadd C 201 rfl dL_law_200 ?_
  refine xx_sld C Sx 202 rfl i 1 (by omega) (by omega) (by omega) dL_law_201 ?_
  refine xx_bool C 209 206 210 (sv_rg xs i 1) rfl rfl rfl dL_law_202 dL_law_205 dL_law_206 dL_law_209 ?_
  refine yX_i (st := []) (As := [.int (iI (bv_ (sv_ xs i 1)))]) C 213 rfl rfl ca_X11_urn cv_X11_urn w_422 rfl ⟨(Nat.le_of_ble_eq_true rfl), (Nat.le_of_ble_eq_true rfl)⟩ ⟨by show k + 0 ≤ 600000; omega, by show n + 0 ≤ 7302250; omega⟩ (Nat.le_of_ble_eq_true rfl) dL_law_210 (c_X11_urn μ (bv_ (sv_ xs i 1)) r μ1 hX) ?_ rfl
  refine xx_aload_n C 214 rfl 3 dL_law_213 rfl rfl ?_
  refine xx_aload_n C 215 rfl 1 dL_law_214 rfl rfl ?_
  refine xx_iload_n C 216 rfl 0 dL_law_215 rfl rfl ?_
  refine xx_iconst C 217 rfl dL_law_216 ?_
  refine xx_iadd C 218 rfl dL_law_217 ?_
  refine xx_sld C Sx 219 rfl i 1 (by omega) (by omega) (by omega) dL_law_218 ?_
  refine xx_bool C 226 223 227 (sv_rg xs i 1) rfl rfl rfl dL_law_219 dL_law_222 dL_law_223 dL_law_226 ?_
  refine yM_i (st := [.int (iI r)]) (As := [.int (iI (bv_ (sv_ xs i 1)))]) C 230 rfl rfl ca_X12_urn cv_X12_urn w_1240 rfl ⟨(Nat.le_of_ble_eq_true rfl), (Nat.le_of_ble_eq_true rfl)⟩ ⟨by show k + 0 + 0 ≤ 600000; omega, by show n + 0 + 0 ≤ 7302250; omega⟩ (Nat.le_of_ble_eq_true rfl) dL_law_227 (c_X12_urn ν (bv_ (sv_ xs i 1)) r ν1 hM) ?_ rfl
  refine xx_icmp_eq (tgt := 1067) (t := some ()) (f := none) (r := ()) C 233 rfl dL_law_230 (by decide) (by unfold eq_; exact if_pos rfl) (fun _ => ?_) (fun h => nn_ h)
  exact next p q _ _ (by show k + 0 + 0 ≤ k + 25; omega) (by show n + 0 + 0 ≤ n + 1750; omega)
set_option maxHeartbeats 4000000 in
theorem lc_tie {G : gp_} {X : ct_} {ad adM : Nat → Nat} {b L i p q k n : Nat} {xs : Nat → Int32} {μ ν μ1 ν1 : mu_T} {nl : Nat} {ret9 : Option FieldType} (C : cx_ G X code "UrnHeapLaw" room_1 ret9 8) (Sx : sx_ X b L xs) (hi : i + 4 ≤ L) (hL : L ≤ 2048) (hk : k + 25 ≤ 600000 ∧ n + 1750 ≤ 7302250) {r : Int} (hX : f_X11_tie μ (sv_ xs i 1) (sv_ xs i 2) (sv_ xs i 3) = some (r, μ1)) (hM : f_X12_tie ν (sv_ xs i 1) (sv_ xs i 2) (sv_ xs i 3) = some (r, ν1)) (next : ∀ p q k2 n2, k2 ≤ k + 25 → n2 ≤ n + 1750 → wy_ G X ad adM p q μ1 ν1 k2 n2 1067 [(3, .int (iI (i : Nat))), (0, .ref b), (1, .ref (ad 132)), (2, .ref (adM 0))] []) : wy_ G X ad adM p q μ ν k n 235 [(3, .int (iI (i : Nat))), (0, .ref b), (1, .ref (ad 132)), (2, .ref (adM 0))] [] := by
  refine xx_aload_n C 236 rfl 2 dL_law_235 rfl rfl ?_
  refine xx_aload_n C 237 rfl 1 dL_law_236 rfl rfl ?_
  refine xx_iload_n C 238 rfl 0 dL_law_237 rfl rfl ?_
  refine xx_iconst C 239 rfl dL_law_238 ?_
  refine xx_iadd C 240 rfl dL_law_239 ?_
  refine xx_sld C Sx 241 rfl i 1 (by omega) (by omega) (by omega) dL_law_240 ?_
  refine xx_aload_n C 242 rfl 1 dL_law_241 rfl rfl ?_
  refine xx_iload_n C 243 rfl 0 dL_law_242 rfl rfl ?_
  refine xx_iconst C 244 rfl dL_law_243 ?_
  refine xx_iadd C 245 rfl dL_law_244 ?_
  refine xx_sld C Sx 246 rfl i 2 (by omega) (by omega) (by omega) dL_law_245 ?_
  refine xx_aload_n C 247 rfl 1 dL_law_246 rfl rfl ?_
  refine xx_iload_n C 248 rfl 0 dL_law_247 rfl rfl ?_
  refine xx_iconst C 249 rfl dL_law_248 ?_
  refine xx_iadd C 250 rfl dL_law_249 ?_
  refine xx_sld C Sx 251 rfl i 3 (by omega) (by omega) (by omega) dL_law_250 ?_
  refine yX_i (st := []) (As := [.int (iI (sv_ xs i 1)), .int (iI (sv_ xs i 2)), .int (iI (sv_ xs i 3))]) C 254 rfl rfl ca_X11_tie cv_X11_tie w_472 rfl ⟨(Nat.le_of_ble_eq_true rfl), (Nat.le_of_ble_eq_true rfl)⟩ ⟨by show k + 0 ≤ 600000; omega, by show n + 0 ≤ 7302250; omega⟩ (Nat.le_of_ble_eq_true rfl) dL_law_251 (c_X11_tie μ (sv_ xs i 1) (sv_ xs i 2) (sv_ xs i 3) r μ1 hX) ?_ rfl
  refine xx_aload_n C 255 rfl 3 dL_law_254 rfl rfl ?_
  refine xx_aload_n C 256 rfl 1 dL_law_255 rfl rfl ?_
  refine xx_iload_n C 257 rfl 0 dL_law_256 rfl rfl ?_
  refine xx_iconst C 258 rfl dL_law_257 ?_
  refine xx_iadd C 259 rfl dL_law_258 ?_
  refine xx_sld C Sx 260 rfl i 1 (by omega) (by omega) (by omega) dL_law_259 ?_
  refine xx_aload_n C 261 rfl 1 dL_law_260 rfl rfl ?_
  refine xx_iload_n C 262 rfl 0 dL_law_261 rfl rfl ?_
  refine xx_iconst C 263 rfl dL_law_262 ?_
  refine xx_iadd C 264 rfl dL_law_263 ?_
  refine xx_sld C Sx 265 rfl i 2 (by omega) (by omega) (by omega) dL_law_264 ?_
  refine xx_aload_n C 266 rfl 1 dL_law_265 rfl rfl ?_
  refine xx_iload_n C 267 rfl 0 dL_law_266 rfl rfl ?_
  refine xx_iconst C 268 rfl dL_law_267 ?_
  refine xx_iadd C 269 rfl dL_law_268 ?_
  refine xx_sld C Sx 270 rfl i 3 (by omega) (by omega) (by omega) dL_law_269 ?_
  refine yM_i (st := [.int (iI r)]) (As := [.int (iI (sv_ xs i 1)), .int (iI (sv_ xs i 2)), .int (iI (sv_ xs i 3))]) C 273 rfl rfl ca_X12_tie cv_X12_tie w_1268 rfl ⟨(Nat.le_of_ble_eq_true rfl), (Nat.le_of_ble_eq_true rfl)⟩ ⟨by show k + 0 + 0 ≤ 600000; omega, by show n + 0 + 0 ≤ 7302250; omega⟩ (Nat.le_of_ble_eq_true rfl) dL_law_270 (c_X12_tie ν (sv_ xs i 1) (sv_ xs i 2) (sv_ xs i 3) r ν1 hM) ?_ rfl
  refine xx_icmp_eq (tgt := 1067) (t := some ()) (f := none) (r := ()) C 276 rfl dL_law_273 (by decide) (by unfold eq_; exact if_pos rfl) (fun _ => ?_) (fun h => nn_ h)
  exact next p q _ _ (by show k + 0 + 0 ≤ k + 25; omega) (by show n + 0 + 0 ≤ n + 1750; omega)
set_option maxHeartbeats 4000000 in
theorem lc_untie {G : gp_} {X : ct_} {ad adM : Nat → Nat} {b L i p q k n : Nat} {xs : Nat → Int32} {μ ν μ1 ν1 : mu_T} {nl : Nat} {ret9 : Option FieldType} (C : cx_ G X code "UrnHeapLaw" room_1 ret9 8) (Sx : sx_ X b L xs) (hi : i + 4 ≤ L) (hL : L ≤ 2048) (hk : k + 25 ≤ 600000 ∧ n + 1750 ≤ 7302250) {r : Int} (hX : f_X11_untie μ (sv_ xs i 1) (sv_ xs i 2) = some (r, μ1)) (hM : f_X12_untie ν (sv_ xs i 1) (sv_ xs i 2) = some (r, ν1)) (next : ∀ p q k2 n2, k2 ≤ k + 25 → n2 ≤ n + 1750 → wy_ G X ad adM p q μ1 ν1 k2 n2 1067 [(3, .int (iI (i : Nat))), (0, .ref b), (1, .ref (ad 132)), (2, .ref (adM 0))] []) : wy_ G X ad adM p q μ ν k n 278 [(3, .int (iI (i : Nat))), (0, .ref b), (1, .ref (ad 132)), (2, .ref (adM 0))] [] := by
  refine xx_aload_n C 279 rfl 2 dL_law_278 rfl rfl ?_
  refine xx_aload_n C 280 rfl 1 dL_law_279 rfl rfl ?_
  refine xx_iload_n C 281 rfl 0 dL_law_280 rfl rfl ?_
  refine xx_iconst C 282 rfl dL_law_281 ?_
  refine xx_iadd C 283 rfl dL_law_282 ?_
  refine xx_sld C Sx 284 rfl i 1 (by omega) (by omega) (by omega) dL_law_283 ?_
  refine xx_aload_n C 285 rfl 1 dL_law_284 rfl rfl ?_
  refine xx_iload_n C 286 rfl 0 dL_law_285 rfl rfl ?_
  refine xx_iconst C 287 rfl dL_law_286 ?_
  refine xx_iadd C 288 rfl dL_law_287 ?_
  refine xx_sld C Sx 289 rfl i 2 (by omega) (by omega) (by omega) dL_law_288 ?_
  refine yX_i (st := []) (As := [.int (iI (sv_ xs i 1)), .int (iI (sv_ xs i 2))]) C 292 rfl rfl ca_X11_untie cv_X11_untie w_511 rfl ⟨(Nat.le_of_ble_eq_true rfl), (Nat.le_of_ble_eq_true rfl)⟩ ⟨by show k + 0 ≤ 600000; omega, by show n + 0 ≤ 7302250; omega⟩ (Nat.le_of_ble_eq_true rfl) dL_law_289 (c_X11_untie μ (sv_ xs i 1) (sv_ xs i 2) r μ1 hX) ?_ rfl
  refine xx_aload_n C 293 rfl 3 dL_law_292 rfl rfl ?_
  refine xx_aload_n C 294 rfl 1 dL_law_293 rfl rfl ?_
  refine xx_iload_n C 295 rfl 0 dL_law_294 rfl rfl ?_
  refine xx_iconst C 296 rfl dL_law_295 ?_
  refine xx_iadd C 297 rfl dL_law_296 ?_
  refine xx_sld C Sx 298 rfl i 1 (by omega) (by omega) (by omega) dL_law_297 ?_
  refine xx_aload_n C 299 rfl 1 dL_law_298 rfl rfl ?_
  refine xx_iload_n C 300 rfl 0 dL_law_299 rfl rfl ?_
  refine xx_iconst C 301 rfl dL_law_300 ?_
  refine xx_iadd C 302 rfl dL_law_301 ?_
  refine xx_sld C Sx 303 rfl i 2 (by omega) (by omega) (by omega) dL_law_302 ?_
  refine yM_i (st := [.int (iI r)]) (As := [.int (iI (sv_ xs i 1)), .int (iI (sv_ xs i 2))]) C 306 rfl rfl ca_X12_untie cv_X12_untie w_1295 rfl ⟨(Nat.le_of_ble_eq_true rfl), (Nat.le_of_ble_eq_true rfl)⟩ ⟨by show k + 0 + 0 ≤ 600000; omega, by show n + 0 + 0 ≤ 7302250; omega⟩ (Nat.le_of_ble_eq_true rfl) dL_law_303 (c_X12_untie ν (sv_ xs i 1) (sv_ xs i 2) r ν1 hM) ?_ rfl
  refine xx_icmp_eq (tgt := 1067) (t := some ()) (f := none) (r := ()) C 309 rfl dL_law_306 (by decide) (by unfold eq_; exact if_pos rfl) (fun _ => ?_) (fun h => nn_ h)
  exact next p q _ _ (by show k + 0 + 0 ≤ k + 25; omega) (by show n + 0 + 0 ≤ n + 1750; omega)
set_option maxHeartbeats 4000000 in
theorem lc_weak {G : gp_} {X : ct_} {ad adM : Nat → Nat} {b L i p q k n : Nat} {xs : Nat → Int32} {μ ν μ1 ν1 : mu_T} {nl : Nat} {ret9 : Option FieldType} (C : cx_ G X code "UrnHeapLaw" room_1 ret9 8) (Sx : sx_ X b L xs) (hi : i + 4 ≤ L) (hL : L ≤ 2048) (hk : k + 25 ≤ 600000 ∧ n + 1750 ≤ 7302250) {r : Int} (hX : f_X11_weak μ (sv_ xs i 1) (sv_ xs i 2) = some (r, μ1)) (hM : f_X12_weak ν (sv_ xs i 1) (sv_ xs i 2) = some (r, ν1)) (next : ∀ p q k2 n2, k2 ≤ k + 25 → n2 ≤ n + 1750 → wy_ G X ad adM p q μ1 ν1 k2 n2 1067 [(3, .int (iI (i : Nat))), (0, .ref b), (1, .ref (ad 132)), (2, .ref (adM 0))] []) : wy_ G X ad adM p q μ ν k n 311 [(3, .int (iI (i : Nat))), (0, .ref b), (1, .ref (ad 132)), (2, .ref (adM 0))] [] := by
  refine xx_aload_n C 312 rfl 2 dL_law_311 rfl rfl ?_
  refine xx_aload_n C 313 rfl 1 dL_law_312 rfl rfl ?_
  refine xx_iload_n C 314 rfl 0 dL_law_313 rfl rfl ?_
  refine xx_iconst C 315 rfl dL_law_314 ?_
  refine xx_iadd C 316 rfl dL_law_315 ?_
  refine xx_sld C Sx 317 rfl i 1 (by omega) (by omega) (by omega) dL_law_316 ?_
  refine xx_aload_n C 318 rfl 1 dL_law_317 rfl rfl ?_
  refine xx_iload_n C 319 rfl 0 dL_law_318 rfl rfl ?_
  refine xx_iconst C 320 rfl dL_law_319 ?_
  refine xx_iadd C 321 rfl dL_law_320 ?_
  refine xx_sld C Sx 322 rfl i 2 (by omega) (by omega) (by omega) dL_law_321 ?_
  refine yX_i (st := []) (As := [.int (iI (sv_ xs i 1)), .int (iI (sv_ xs i 2))]) C 325 rfl rfl ca_X11_weak cv_X11_weak w_519 rfl ⟨(Nat.le_of_ble_eq_true rfl), (Nat.le_of_ble_eq_true rfl)⟩ ⟨by show k + 0 ≤ 600000; omega, by show n + 0 ≤ 7302250; omega⟩ (Nat.le_of_ble_eq_true rfl) dL_law_322 (c_X11_weak μ (sv_ xs i 1) (sv_ xs i 2) r μ1 hX) ?_ rfl
  refine xx_aload_n C 326 rfl 3 dL_law_325 rfl rfl ?_
  refine xx_aload_n C 327 rfl 1 dL_law_326 rfl rfl ?_
  refine xx_iload_n C 328 rfl 0 dL_law_327 rfl rfl ?_
  refine xx_iconst C 329 rfl dL_law_328 ?_
  refine xx_iadd C 330 rfl dL_law_329 ?_
  refine xx_sld C Sx 331 rfl i 1 (by omega) (by omega) (by omega) dL_law_330 ?_
  refine xx_aload_n C 332 rfl 1 dL_law_331 rfl rfl ?_
  refine xx_iload_n C 333 rfl 0 dL_law_332 rfl rfl ?_
  refine xx_iconst C 334 rfl dL_law_333 ?_
  refine xx_iadd C 335 rfl dL_law_334 ?_
  refine xx_sld C Sx 336 rfl i 2 (by omega) (by omega) (by omega) dL_law_335 ?_
  refine yM_i (st := [.int (iI r)]) (As := [.int (iI (sv_ xs i 1)), .int (iI (sv_ xs i 2))]) C 339 rfl rfl ca_X12_weak cv_X12_weak w_1303 rfl ⟨(Nat.le_of_ble_eq_true rfl), (Nat.le_of_ble_eq_true rfl)⟩ ⟨by show k + 0 + 0 ≤ 600000; omega, by show n + 0 + 0 ≤ 7302250; omega⟩ (Nat.le_of_ble_eq_true rfl) dL_law_336 (c_X12_weak ν (sv_ xs i 1) (sv_ xs i 2) r ν1 hM) ?_ rfl
  refine xx_icmp_eq (tgt := 1067) (t := some ()) (f := none) (r := ()) C 342 rfl dL_law_339 (by decide) (by unfold eq_; exact if_pos rfl) (fun _ => ?_) (fun h => nn_ h)
  exact next p q _ _ (by show k + 0 + 0 ≤ k + 25; omega) (by show n + 0 + 0 ≤ n + 1750; omega)
set_option maxHeartbeats 4000000 in
theorem lc_unweak {G : gp_} {X : ct_} {ad adM : Nat → Nat} {b L i p q k n : Nat} {xs : Nat → Int32} {μ ν μ1 ν1 : mu_T} {nl : Nat} {ret9 : Option FieldType} (C : cx_ G X code "UrnHeapLaw" room_1 ret9 8) (Sx : sx_ X b L xs) (hi : i + 4 ≤ L) (hL : L ≤ 2048) (hk : k + 25 ≤ 600000 ∧ n + 1750 ≤ 7302250) {r : Int} (hX : f_X11_unweak μ (sv_ xs i 1) = some (r, μ1)) (hM : f_X12_unweak ν (sv_ xs i 1) = some (r, ν1)) (next : ∀ p q k2 n2, k2 ≤ k + 25 → n2 ≤ n + 1750 → wy_ G X ad adM p q μ1 ν1 k2 n2 1067 [(3, .int (iI (i : Nat))), (0, .ref b), (1, .ref (ad 132)), (2, .ref (adM 0))] []) : wy_ G X ad adM p q μ ν k n 344 [(3, .int (iI (i : Nat))), (0, .ref b), (1, .ref (ad 132)), (2, .ref (adM 0))] [] := by
  refine xx_aload_n C 345 rfl 2 dL_law_344 rfl rfl ?_
  refine xx_aload_n C 346 rfl 1 dL_law_345 rfl rfl ?_
  refine xx_iload_n C 347 rfl 0 dL_law_346 rfl rfl ?_
  refine xx_iconst C 348 rfl dL_law_347 ?_
  refine xx_iadd C 349 rfl dL_law_348 ?_
  refine xx_sld C Sx 350 rfl i 1 (by omega) (by omega) (by omega) dL_law_349 ?_
  refine yX_i (st := []) (As := [.int (iI (sv_ xs i 1))]) C 353 rfl rfl ca_X11_unweak cv_X11_unweak w_527 rfl ⟨(Nat.le_of_ble_eq_true rfl), (Nat.le_of_ble_eq_true rfl)⟩ ⟨by show k + 0 ≤ 600000; omega, by show n + 0 ≤ 7302250; omega⟩ (Nat.le_of_ble_eq_true rfl) dL_law_350 (c_X11_unweak μ (sv_ xs i 1) r μ1 hX) ?_ rfl
  refine xx_aload_n C 354 rfl 3 dL_law_353 rfl rfl ?_
  refine xx_aload_n C 355 rfl 1 dL_law_354 rfl rfl ?_
  refine xx_iload_n C 356 rfl 0 dL_law_355 rfl rfl ?_
  refine xx_iconst C 357 rfl dL_law_356 ?_
  refine xx_iadd C 358 rfl dL_law_357 ?_
  refine xx_sld C Sx 359 rfl i 1 (by omega) (by omega) (by omega) dL_law_358 ?_
  refine yM_i (st := [.int (iI r)]) (As := [.int (iI (sv_ xs i 1))]) C 362 rfl rfl ca_X12_unweak cv_X12_unweak w_1311 rfl ⟨(Nat.le_of_ble_eq_true rfl), (Nat.le_of_ble_eq_true rfl)⟩ ⟨by show k + 0 + 0 ≤ 600000; omega, by show n + 0 + 0 ≤ 7302250; omega⟩ (Nat.le_of_ble_eq_true rfl) dL_law_359 (c_X12_unweak ν (sv_ xs i 1) r ν1 hM) ?_ rfl
  refine xx_icmp_eq (tgt := 1067) (t := some ()) (f := none) (r := ()) C 365 rfl dL_law_362 (by decide) (by unfold eq_; exact if_pos rfl) (fun _ => ?_) (fun h => nn_ h)
  exact next p q _ _ (by show k + 0 + 0 ≤ k + 25; omega) (by show n + 0 + 0 ≤ n + 1750; omega)
set_option maxHeartbeats 4000000 in
theorem lc_name {G : gp_} {X : ct_} {ad adM : Nat → Nat} {b L i p q k n : Nat} {xs : Nat → Int32} {μ ν μ1 ν1 : mu_T} {nl : Nat} {ret9 : Option FieldType} (C : cx_ G X code "UrnHeapLaw" room_1 ret9 8) (Sx : sx_ X b L xs) (hi : i + 4 ≤ L) (hL : L ≤ 2048) (hk : k + 25 ≤ 600000 ∧ n + 1750 ≤ 7302250) {r : Int} (hX : f_X11_name μ (sv_ xs i 1) (sv_ xs i 2) = some (r, μ1)) (hM : f_X12_name ν (sv_ xs i 1) (sv_ xs i 2) = some (r, ν1)) (next : ∀ p q k2 n2, k2 ≤ k + 25 → n2 ≤ n + 1750 → wy_ G X ad adM p q μ1 ν1 k2 n2 1067 [(3, .int (iI (i : Nat))), (0, .ref b), (1, .ref (ad 132)), (2, .ref (adM 0))] []) : wy_ G X ad adM p q μ ν k n 367 [(3, .int (iI (i : Nat))), (0, .ref b), (1, .ref (ad 132)), (2, .ref (adM 0))] [] := by
  refine xx_aload_n C 368 rfl 2 dL_law_367 rfl rfl ?_
  refine xx_aload_n C 369 rfl 1 dL_law_368 rfl rfl ?_
  refine xx_iload_n C 370 rfl 0 dL_law_369 rfl rfl ?_
  refine xx_iconst C 371 rfl dL_law_370 ?_
  refine xx_iadd C 372 rfl dL_law_371 ?_
  refine xx_sld C Sx 373 rfl i 1 (by omega) (by omega) (by omega) dL_law_372 ?_
  refine xx_aload_n C 374 rfl 1 dL_law_373 rfl rfl ?_
  refine xx_iload_n C 375 rfl 0 dL_law_374 rfl rfl ?_
  refine xx_iconst C 376 rfl dL_law_375 ?_
  refine xx_iadd C 377 rfl dL_law_376 ?_
  refine xx_sld C Sx 378 rfl i 2 (by omega) (by omega) (by omega) dL_law_377 ?_
  refine yX_i (st := []) (As := [.int (iI (sv_ xs i 1)), .int (iI (sv_ xs i 2))]) C 381 rfl rfl ca_X11_name cv_X11_name w_535 rfl ⟨(Nat.le_of_ble_eq_true rfl), (Nat.le_of_ble_eq_true rfl)⟩ ⟨by show k + 0 ≤ 600000; omega, by show n + 0 ≤ 7302250; omega⟩ (Nat.le_of_ble_eq_true rfl) dL_law_378 (c_X11_name μ (sv_ xs i 1) (sv_ xs i 2) r μ1 hX) ?_ rfl
  refine xx_aload_n C 382 rfl 3 dL_law_381 rfl rfl ?_
  refine xx_aload_n C 383 rfl 1 dL_law_382 rfl rfl ?_
  refine xx_iload_n C 384 rfl 0 dL_law_383 rfl rfl ?_
  refine xx_iconst C 385 rfl dL_law_384 ?_
  refine xx_iadd C 386 rfl dL_law_385 ?_
  refine xx_sld C Sx 387 rfl i 1 (by omega) (by omega) (by omega) dL_law_386 ?_
  refine xx_aload_n C 388 rfl 1 dL_law_387 rfl rfl ?_
  refine xx_iload_n C 389 rfl 0 dL_law_388 rfl rfl ?_
  refine xx_iconst C 390 rfl dL_law_389 ?_
  refine xx_iadd C 391 rfl dL_law_390 ?_
  refine xx_sld C Sx 392 rfl i 2 (by omega) (by omega) (by omega) dL_law_391 ?_
  refine yM_i (st := [.int (iI r)]) (As := [.int (iI (sv_ xs i 1)), .int (iI (sv_ xs i 2))]) C 395 rfl rfl ca_X12_name cv_X12_name w_1315 rfl ⟨(Nat.le_of_ble_eq_true rfl), (Nat.le_of_ble_eq_true rfl)⟩ ⟨by show k + 0 + 0 ≤ 600000; omega, by show n + 0 + 0 ≤ 7302250; omega⟩ (Nat.le_of_ble_eq_true rfl) dL_law_392 (c_X12_name ν (sv_ xs i 1) (sv_ xs i 2) r ν1 hM) ?_ rfl
  refine xx_icmp_eq (tgt := 1067) (t := some ()) (f := none) (r := ()) C 398 rfl dL_law_395 (by decide) (by unfold eq_; exact if_pos rfl) (fun _ => ?_) (fun h => nn_ h)
  exact next p q _ _ (by show k + 0 + 0 ≤ k + 25; omega) (by show n + 0 + 0 ≤ n + 1750; omega)
set_option maxHeartbeats 4000000 in
theorem lc_drop {G : gp_} {X : ct_} {ad adM : Nat → Nat} {b L i p q k n : Nat} {xs : Nat → Int32} {μ ν μ1 ν1 : mu_T} {nl : Nat} {ret9 : Option FieldType} (C : cx_ G X code "UrnHeapLaw" room_1 ret9 8) (Sx : sx_ X b L xs) (hi : i + 4 ≤ L) (hL : L ≤ 2048) (hk : k + 25 ≤ 600000 ∧ n + 1750 ≤ 7302250) {r : Int} (hX : f_X11_drop μ (sv_ xs i 1) = some (r, μ1)) (hM : f_X12_drop ν (sv_ xs i 1) = some (r, ν1)) (next : ∀ p q k2 n2, k2 ≤ k + 25 → n2 ≤ n + 1750 → wy_ G X ad adM p q μ1 ν1 k2 n2 1067 [(3, .int (iI (i : Nat))), (0, .ref b), (1, .ref (ad 132)), (2, .ref (adM 0))] []) : wy_ G X ad adM p q μ ν k n 400 [(3, .int (iI (i : Nat))), (0, .ref b), (1, .ref (ad 132)), (2, .ref (adM 0))] [] := by
  refine xx_aload_n C 401 rfl 2 dL_law_400 rfl rfl ?_
  refine xx_aload_n C 402 rfl 1 dL_law_401 rfl rfl ?_
  refine xx_iload_n C 403 rfl 0 dL_law_402 rfl rfl ?_
  refine xx_iconst C 404 rfl dL_law_403 ?_
  refine xx_iadd C 405 rfl dL_law_404 ?_
  refine xx_sld C Sx 406 rfl i 1 (by omega) (by omega) (by omega) dL_law_405 ?_
  refine yX_i (st := []) (As := [.int (iI (sv_ xs i 1))]) C 409 rfl rfl ca_X11_drop cv_X11_drop w_546 rfl ⟨(Nat.le_of_ble_eq_true rfl), (Nat.le_of_ble_eq_true rfl)⟩ ⟨by show k + 0 ≤ 600000; omega, by show n + 0 ≤ 7302250; omega⟩ (Nat.le_of_ble_eq_true rfl) dL_law_406 (c_X11_drop μ (sv_ xs i 1) r μ1 hX) ?_ rfl
  refine xx_aload_n C 410 rfl 3 dL_law_409 rfl rfl ?_
  refine xx_aload_n C 411 rfl 1 dL_law_410 rfl rfl ?_
  refine xx_iload_n C 412 rfl 0 dL_law_411 rfl rfl ?_
  refine xx_iconst C 413 rfl dL_law_412 ?_
  refine xx_iadd C 414 rfl dL_law_413 ?_
  refine xx_sld C Sx 415 rfl i 1 (by omega) (by omega) (by omega) dL_law_414 ?_
  refine yM_i (st := [.int (iI r)]) (As := [.int (iI (sv_ xs i 1))]) C 418 rfl rfl ca_X12_drop cv_X12_drop w_1323 rfl ⟨(Nat.le_of_ble_eq_true rfl), (Nat.le_of_ble_eq_true rfl)⟩ ⟨by show k + 0 + 0 ≤ 600000; omega, by show n + 0 + 0 ≤ 7302250; omega⟩ (Nat.le_of_ble_eq_true rfl) dL_law_415 (c_X12_drop ν (sv_ xs i 1) r ν1 hM) ?_ rfl
  refine xx_icmp_eq (tgt := 1067) (t := some ()) (f := none) (r := ()) C 421 rfl dL_law_418 (by decide) (by unfold eq_; exact if_pos rfl) (fun _ => ?_) (fun h => nn_ h)
  exact next p q _ _ (by show k + 0 + 0 ≤ k + 25; omega) (by show n + 0 + 0 ≤ n + 1750; omega)
set_option maxHeartbeats 4000000 in
theorem lc_urnOf {G : gp_} {X : ct_} {ad adM : Nat → Nat} {b L i p q k n : Nat} {xs : Nat → Int32} {μ ν : mu_T} {nl : Nat} {ret9 : Option FieldType} (C : cx_ G X code "UrnHeapLaw" room_1 ret9 8) (Sx : sx_ X b L xs) (hi : i + 4 ≤ L) (hL : L ≤ 2048) (hk : k + 25 ≤ 600000 ∧ n + 1750 ≤ 7302250) {r : Int} (hX : f_X11_urnOf μ (sv_ xs i 1) (sv_ xs i 2) = some r) (hM : f_X12_urnOf ν (sv_ xs i 1) (sv_ xs i 2) = some r) (next : ∀ p q k2 n2, k2 ≤ k + 25 → n2 ≤ n + 1750 → wy_ G X ad adM p q μ ν k2 n2 1067 [(3, .int (iI (i : Nat))), (0, .ref b), (1, .ref (ad 132)), (2, .ref (adM 0))] []) : wy_ G X ad adM p q μ ν k n 423 [(3, .int (iI (i : Nat))), (0, .ref b), (1, .ref (ad 132)), (2, .ref (adM 0))] [] := by
  refine xx_aload_n C 424 rfl 2 dL_law_423 rfl rfl ?_
  refine xx_aload_n C 425 rfl 1 dL_law_424 rfl rfl ?_
  refine xx_iload_n C 426 rfl 0 dL_law_425 rfl rfl ?_
  refine xx_iconst C 427 rfl dL_law_426 ?_
  refine xx_iadd C 428 rfl dL_law_427 ?_
  refine xx_sld C Sx 429 rfl i 1 (by omega) (by omega) (by omega) dL_law_428 ?_
  refine xx_aload_n C 430 rfl 1 dL_law_429 rfl rfl ?_
  refine xx_iload_n C 431 rfl 0 dL_law_430 rfl rfl ?_
  refine xx_iconst C 432 rfl dL_law_431 ?_
  refine xx_iadd C 433 rfl dL_law_432 ?_
  refine xx_sld C Sx 434 rfl i 2 (by omega) (by omega) (by omega) dL_law_433 ?_
  refine yX_i (st := []) (As := [.int (iI (sv_ xs i 1)), .int (iI (sv_ xs i 2))]) C 437 rfl rfl ca_X11_urnOf cv_X11_urnOf w_554 rfl ⟨(Nat.le_of_ble_eq_true rfl), (Nat.le_of_ble_eq_true rfl)⟩ ⟨by show k + 0 ≤ 600000; omega, by show n + 0 ≤ 7302250; omega⟩ (Nat.le_of_ble_eq_true rfl) dL_law_434 (c_X11_urnOf μ (sv_ xs i 1) (sv_ xs i 2) r hX) ?_ rfl
  refine xx_aload_n C 438 rfl 3 dL_law_437 rfl rfl ?_
  refine xx_aload_n C 439 rfl 1 dL_law_438 rfl rfl ?_
  refine xx_iload_n C 440 rfl 0 dL_law_439 rfl rfl ?_
  refine xx_iconst C 441 rfl dL_law_440 ?_
  refine xx_iadd C 442 rfl dL_law_441 ?_
  refine xx_sld C Sx 443 rfl i 1 (by omega) (by omega) (by omega) dL_law_442 ?_
  refine xx_aload_n C 444 rfl 1 dL_law_443 rfl rfl ?_
  refine xx_iload_n C 445 rfl 0 dL_law_444 rfl rfl ?_
  refine xx_iconst C 446 rfl dL_law_445 ?_
  refine xx_iadd C 447 rfl dL_law_446 ?_
  refine xx_sld C Sx 448 rfl i 2 (by omega) (by omega) (by omega) dL_law_447 ?_
  refine yM_i (st := [.int (iI r)]) (As := [.int (iI (sv_ xs i 1)), .int (iI (sv_ xs i 2))]) C 451 rfl rfl ca_X12_urnOf cv_X12_urnOf w_1331 rfl ⟨(Nat.le_of_ble_eq_true rfl), (Nat.le_of_ble_eq_true rfl)⟩ ⟨by show k + 0 + 0 ≤ 600000; omega, by show n + 0 + 0 ≤ 7302250; omega⟩ (Nat.le_of_ble_eq_true rfl) dL_law_448 (c_X12_urnOf ν (sv_ xs i 1) (sv_ xs i 2) r hM) ?_ rfl
  refine xx_icmp_eq (tgt := 1067) (t := some ()) (f := none) (r := ()) C 454 rfl dL_law_451 (by decide) (by unfold eq_; exact if_pos rfl) (fun _ => ?_) (fun h => nn_ h)
  exact next p q _ _ (by show k + 0 + 0 ≤ k + 25; omega) (by show n + 0 + 0 ≤ n + 1750; omega)
set_option maxHeartbeats 4000000 in
theorem lc_threadOf {G : gp_} {X : ct_} {ad adM : Nat → Nat} {b L i p q k n : Nat} {xs : Nat → Int32} {μ ν : mu_T} {nl : Nat} {ret9 : Option FieldType} (C : cx_ G X code "UrnHeapLaw" room_1 ret9 8) (Sx : sx_ X b L xs) (hi : i + 4 ≤ L) (hL : L ≤ 2048) (hk : k + 25 ≤ 600000 ∧ n + 1750 ≤ 7302250) {r : Int} (hX : f_X11_threadOf μ (sv_ xs i 1) (sv_ xs i 2) = some r) (hM : f_X12_threadOf ν (sv_ xs i 1) (sv_ xs i 2) = some r) (next : ∀ p q k2 n2, k2 ≤ k + 25 → n2 ≤ n + 1750 → wy_ G X ad adM p q μ ν k2 n2 1067 [(3, .int (iI (i : Nat))), (0, .ref b), (1, .ref (ad 132)), (2, .ref (adM 0))] []) : wy_ G X ad adM p q μ ν k n 456 [(3, .int (iI (i : Nat))), (0, .ref b), (1, .ref (ad 132)), (2, .ref (adM 0))] [] := by
  refine xx_aload_n C 457 rfl 2 dL_law_456 rfl rfl ?_
  refine xx_aload_n C 458 rfl 1 dL_law_457 rfl rfl ?_
  refine xx_iload_n C 459 rfl 0 dL_law_458 rfl rfl ?_
  refine xx_iconst C 460 rfl dL_law_459 ?_
  refine xx_iadd C 461 rfl dL_law_460 ?_
  refine xx_sld C Sx 462 rfl i 1 (by omega) (by omega) (by omega) dL_law_461 ?_
  refine xx_aload_n C 463 rfl 1 dL_law_462 rfl rfl ?_
  refine xx_iload_n C 464 rfl 0 dL_law_463 rfl rfl ?_
  refine xx_iconst C 465 rfl dL_law_464 ?_
  refine xx_iadd C 466 rfl dL_law_465 ?_
  refine xx_sld C Sx 467 rfl i 2 (by omega) (by omega) (by omega) dL_law_466 ?_
  refine yX_i (st := []) (As := [.int (iI (sv_ xs i 1)), .int (iI (sv_ xs i 2))]) C 470 rfl rfl ca_X11_threadOf cv_X11_threadOf w_568 rfl ⟨(Nat.le_of_ble_eq_true rfl), (Nat.le_of_ble_eq_true rfl)⟩ ⟨by show k + 0 ≤ 600000; omega, by show n + 0 ≤ 7302250; omega⟩ (Nat.le_of_ble_eq_true rfl) dL_law_467 (c_X11_threadOf μ (sv_ xs i 1) (sv_ xs i 2) r hX) ?_ rfl
  refine xx_aload_n C 471 rfl 3 dL_law_470 rfl rfl ?_
  refine xx_aload_n C 472 rfl 1 dL_law_471 rfl rfl ?_
  refine xx_iload_n C 473 rfl 0 dL_law_472 rfl rfl ?_
  refine xx_iconst C 474 rfl dL_law_473 ?_
  refine xx_iadd C 475 rfl dL_law_474 ?_
  refine xx_sld C Sx 476 rfl i 1 (by omega) (by omega) (by omega) dL_law_475 ?_
  refine xx_aload_n C 477 rfl 1 dL_law_476 rfl rfl ?_
  refine xx_iload_n C 478 rfl 0 dL_law_477 rfl rfl ?_
  refine xx_iconst C 479 rfl dL_law_478 ?_
  refine xx_iadd C 480 rfl dL_law_479 ?_
  refine xx_sld C Sx 481 rfl i 2 (by omega) (by omega) (by omega) dL_law_480 ?_
  refine yM_i (st := [.int (iI r)]) (As := [.int (iI (sv_ xs i 1)), .int (iI (sv_ xs i 2))]) C 484 rfl rfl ca_X12_threadOf cv_X12_threadOf w_1343 rfl ⟨(Nat.le_of_ble_eq_true rfl), (Nat.le_of_ble_eq_true rfl)⟩ ⟨by show k + 0 + 0 ≤ 600000; omega, by show n + 0 + 0 ≤ 7302250; omega⟩ (Nat.le_of_ble_eq_true rfl) dL_law_481 (c_X12_threadOf ν (sv_ xs i 1) (sv_ xs i 2) r hM) ?_ rfl
  refine xx_icmp_eq (tgt := 1067) (t := some ()) (f := none) (r := ()) C 487 rfl dL_law_484 (by decide) (by unfold eq_; exact if_pos rfl) (fun _ => ?_) (fun h => nn_ h)
  exact next p q _ _ (by show k + 0 + 0 ≤ k + 25; omega) (by show n + 0 + 0 ≤ n + 1750; omega)
set_option maxHeartbeats 4000000 in
theorem lc_named {G : gp_} {X : ct_} {ad adM : Nat → Nat} {b L i p q k n : Nat} {xs : Nat → Int32} {μ ν : mu_T} {nl : Nat} {ret9 : Option FieldType} (C : cx_ G X code "UrnHeapLaw" room_1 ret9 8) (Sx : sx_ X b L xs) (hi : i + 4 ≤ L) (hL : L ≤ 2048) (hk : k + 25 ≤ 600000 ∧ n + 1750 ≤ 7302250) {r : Int} (hX : f_X11_named μ (sv_ xs i 1) = some r) (hM : f_X12_named ν (sv_ xs i 1) = some r) (next : ∀ p q k2 n2, k2 ≤ k + 25 → n2 ≤ n + 1750 → wy_ G X ad adM p q μ ν k2 n2 1067 [(3, .int (iI (i : Nat))), (0, .ref b), (1, .ref (ad 132)), (2, .ref (adM 0))] []) : wy_ G X ad adM p q μ ν k n 489 [(3, .int (iI (i : Nat))), (0, .ref b), (1, .ref (ad 132)), (2, .ref (adM 0))] [] := by
  refine xx_aload_n C 490 rfl 2 dL_law_489 rfl rfl ?_
  refine xx_aload_n C 491 rfl 1 dL_law_490 rfl rfl ?_
  refine xx_iload_n C 492 rfl 0 dL_law_491 rfl rfl ?_
  refine xx_iconst C 493 rfl dL_law_492 ?_
  refine xx_iadd C 494 rfl dL_law_493 ?_
  refine xx_sld C Sx 495 rfl i 1 (by omega) (by omega) (by omega) dL_law_494 ?_
  refine yX_i (st := []) (As := [.int (iI (sv_ xs i 1))]) C 498 rfl rfl ca_X11_named cv_X11_named w_574 rfl ⟨(Nat.le_of_ble_eq_true rfl), (Nat.le_of_ble_eq_true rfl)⟩ ⟨by show k + 0 ≤ 600000; omega, by show n + 0 ≤ 7302250; omega⟩ (Nat.le_of_ble_eq_true rfl) dL_law_495 (c_X11_named μ (sv_ xs i 1) r hX) ?_ rfl
  refine xx_aload_n C 499 rfl 3 dL_law_498 rfl rfl ?_
  refine xx_aload_n C 500 rfl 1 dL_law_499 rfl rfl ?_
  refine xx_iload_n C 501 rfl 0 dL_law_500 rfl rfl ?_
  refine xx_iconst C 502 rfl dL_law_501 ?_
  refine xx_iadd C 503 rfl dL_law_502 ?_
  refine xx_sld C Sx 504 rfl i 1 (by omega) (by omega) (by omega) dL_law_503 ?_
  refine yM_i (st := [.int (iI r)]) (As := [.int (iI (sv_ xs i 1))]) C 507 rfl rfl ca_X12_named cv_X12_named w_1347 rfl ⟨(Nat.le_of_ble_eq_true rfl), (Nat.le_of_ble_eq_true rfl)⟩ ⟨by show k + 0 + 0 ≤ 600000; omega, by show n + 0 + 0 ≤ 7302250; omega⟩ (Nat.le_of_ble_eq_true rfl) dL_law_504 (c_X12_named ν (sv_ xs i 1) r hM) ?_ rfl
  refine xx_icmp_eq (tgt := 1067) (t := some ()) (f := none) (r := ()) C 510 rfl dL_law_507 (by decide) (by unfold eq_; exact if_pos rfl) (fun _ => ?_) (fun h => nn_ h)
  exact next p q _ _ (by show k + 0 + 0 ≤ k + 25; omega) (by show n + 0 + 0 ≤ n + 1750; omega)
set_option maxHeartbeats 4000000 in
theorem lc_begin {G : gp_} {X : ct_} {ad adM : Nat → Nat} {b L i p q k n : Nat} {xs : Nat → Int32} {μ ν μ1 ν1 : mu_T} {nl : Nat} {ret9 : Option FieldType} (C : cx_ G X code "UrnHeapLaw" room_1 ret9 8) (Sx : sx_ X b L xs) (hi : i + 4 ≤ L) (hL : L ≤ 2048) (hk : k + 25 ≤ 600000 ∧ n + 1750 ≤ 7302250) {r : Int} (hX : f_X11_begin μ = some (r, μ1)) (hM : f_X12_begin ν = some (r, ν1)) (next : ∀ p q k2 n2, k2 ≤ k + 25 → n2 ≤ n + 1750 → wy_ G X ad adM p q μ1 ν1 k2 n2 1067 [(3, .int (iI (i : Nat))), (0, .ref b), (1, .ref (ad 132)), (2, .ref (adM 0))] []) : wy_ G X ad adM p q μ ν k n 512 [(3, .int (iI (i : Nat))), (0, .ref b), (1, .ref (ad 132)), (2, .ref (adM 0))] [] := by
  refine xx_aload_n C 513 rfl 2 dL_law_512 rfl rfl ?_
  refine yX_i (st := []) (As := []) C 516 rfl rfl ca_X11_begin cv_X11_begin w_579 rfl ⟨(Nat.le_of_ble_eq_true rfl), (Nat.le_of_ble_eq_true rfl)⟩ ⟨by show k + 0 ≤ 600000; omega, by show n + 0 ≤ 7302250; omega⟩ (Nat.le_of_ble_eq_true rfl) dL_law_513 (c_X11_begin μ r μ1 hX) ?_ rfl
  refine xx_aload_n C 517 rfl 3 dL_law_516 rfl rfl ?_
  refine yM_i (st := [.int (iI r)]) (As := []) C 520 rfl rfl ca_X12_begin cv_X12_begin w_1351 rfl ⟨(Nat.le_of_ble_eq_true rfl), (Nat.le_of_ble_eq_true rfl)⟩ ⟨by show k + 0 + 0 ≤ 600000; omega, by show n + 0 + 0 ≤ 7302250; omega⟩ (Nat.le_of_ble_eq_true rfl) dL_law_517 (c_X12_begin ν r ν1 hM) ?_ rfl
  refine xx_icmp_eq (tgt := 1067) (t := some ()) (f := none) (r := ()) C 523 rfl dL_law_520 (by decide) (by unfold eq_; exact if_pos rfl) (fun _ => ?_) (fun h => nn_ h)
  exact next p q _ _ (by show k + 0 + 0 ≤ k + 25; omega) (by show n + 0 + 0 ≤ n + 1750; omega)
set_option maxHeartbeats 4000000 in
theorem lc_step {G : gp_} {X : ct_} {ad adM : Nat → Nat} {b L i p q k n : Nat} {xs : Nat → Int32} {μ ν μ1 ν1 : mu_T} {nl : Nat} {ret9 : Option FieldType} (C : cx_ G X code "UrnHeapLaw" room_1 ret9 8) (Sx : sx_ X b L xs) (hi : i + 4 ≤ L) (hL : L ≤ 2048) (hk : k + 25 ≤ 600000 ∧ n + 1750 ≤ 7302250) {r : Int} (hX : f_X11_step μ (sv_ xs i 1) = some (r, μ1)) (hM : f_X12_step ν (sv_ xs i 1) = some (r, ν1)) (next : ∀ p q k2 n2, k2 ≤ k + 25 → n2 ≤ n + 1750 → wy_ G X ad adM p q μ1 ν1 k2 n2 1067 [(3, .int (iI (i : Nat))), (0, .ref b), (1, .ref (ad 132)), (2, .ref (adM 0))] []) : wy_ G X ad adM p q μ ν k n 525 [(3, .int (iI (i : Nat))), (0, .ref b), (1, .ref (ad 132)), (2, .ref (adM 0))] [] := by
  refine xx_aload_n C 526 rfl 2 dL_law_525 rfl rfl ?_
  refine xx_aload_n C 527 rfl 1 dL_law_526 rfl rfl ?_
  refine xx_iload_n C 528 rfl 0 dL_law_527 rfl rfl ?_
  refine xx_iconst C 529 rfl dL_law_528 ?_
  refine xx_iadd C 530 rfl dL_law_529 ?_
  refine xx_sld C Sx 531 rfl i 1 (by omega) (by omega) (by omega) dL_law_530 ?_
  refine yX_i (st := []) (As := [.int (iI (sv_ xs i 1))]) C 534 rfl rfl ca_X11_step cv_X11_step w_597 rfl ⟨(Nat.le_of_ble_eq_true rfl), (Nat.le_of_ble_eq_true rfl)⟩ ⟨by show k + 0 ≤ 600000; omega, by show n + 0 ≤ 7302250; omega⟩ (Nat.le_of_ble_eq_true rfl) dL_law_531 (c_X11_step μ (sv_ xs i 1) r μ1 hX) ?_ rfl
  refine xx_aload_n C 535 rfl 3 dL_law_534 rfl rfl ?_
  refine xx_aload_n C 536 rfl 1 dL_law_535 rfl rfl ?_
  refine xx_iload_n C 537 rfl 0 dL_law_536 rfl rfl ?_
  refine xx_iconst C 538 rfl dL_law_537 ?_
  refine xx_iadd C 539 rfl dL_law_538 ?_
  refine xx_sld C Sx 540 rfl i 1 (by omega) (by omega) (by omega) dL_law_539 ?_
  refine yM_i (st := [.int (iI r)]) (As := [.int (iI (sv_ xs i 1))]) C 543 rfl rfl ca_X12_step cv_X12_step w_1359 rfl ⟨(Nat.le_of_ble_eq_true rfl), (Nat.le_of_ble_eq_true rfl)⟩ ⟨by show k + 0 + 0 ≤ 600000; omega, by show n + 0 + 0 ≤ 7302250; omega⟩ (Nat.le_of_ble_eq_true rfl) dL_law_540 (c_X12_step ν (sv_ xs i 1) r ν1 hM) ?_ rfl
  refine xx_icmp_eq (tgt := 1067) (t := some ()) (f := none) (r := ()) C 546 rfl dL_law_543 (by decide) (by unfold eq_; exact if_pos rfl) (fun _ => ?_) (fun h => nn_ h)
  exact next p q _ _ (by show k + 0 + 0 ≤ k + 25; omega) (by show n + 0 + 0 ≤ n + 1750; omega)
set_option maxHeartbeats 4000000 in
theorem lc_round {G : gp_} {X : ct_} {ad adM : Nat → Nat} {b L i p q k n : Nat} {xs : Nat → Int32} {μ ν μ1 ν1 : mu_T} {nl : Nat} {ret9 : Option FieldType} (C : cx_ G X code "UrnHeapLaw" room_1 ret9 8) (Sx : sx_ X b L xs) (hi : i + 4 ≤ L) (hL : L ≤ 2048) (hk : k + 25 ≤ 600000 ∧ n + 1750 ≤ 7302250) {r : Int} (hX : f_X11_round μ = some (r, μ1)) (hM : f_X12_round ν = some (r, ν1)) (next : ∀ p q k2 n2, k2 ≤ k + 25 → n2 ≤ n + 1750 → wy_ G X ad adM p q μ1 ν1 k2 n2 1067 [(3, .int (iI (i : Nat))), (0, .ref b), (1, .ref (ad 132)), (2, .ref (adM 0))] []) : wy_ G X ad adM p q μ ν k n 548 [(3, .int (iI (i : Nat))), (0, .ref b), (1, .ref (ad 132)), (2, .ref (adM 0))] [] := by
  refine xx_aload_n C 549 rfl 2 dL_law_548 rfl rfl ?_
  refine yX_i (st := []) (As := []) C 552 rfl rfl ca_X11_round cv_X11_round w_642 rfl ⟨(Nat.le_of_ble_eq_true rfl), (Nat.le_of_ble_eq_true rfl)⟩ ⟨by show k + 0 ≤ 600000; omega, by show n + 0 ≤ 7302250; omega⟩ (Nat.le_of_ble_eq_true rfl) dL_law_549 (c_X11_round μ r μ1 hX) ?_ rfl
  refine xx_aload_n C 553 rfl 3 dL_law_552 rfl rfl ?_
  refine yM_i (st := [.int (iI r)]) (As := []) C 556 rfl rfl ca_X12_round cv_X12_round w_1395 rfl ⟨(Nat.le_of_ble_eq_true rfl), (Nat.le_of_ble_eq_true rfl)⟩ ⟨by show k + 0 + 0 ≤ 600000; omega, by show n + 0 + 0 ≤ 7302250; omega⟩ (Nat.le_of_ble_eq_true rfl) dL_law_553 (c_X12_round ν r ν1 hM) ?_ rfl
  refine xx_icmp_eq (tgt := 1067) (t := some ()) (f := none) (r := ()) C 559 rfl dL_law_556 (by decide) (by unfold eq_; exact if_pos rfl) (fun _ => ?_) (fun h => nn_ h)
  exact next p q _ _ (by show k + 0 + 0 ≤ k + 25; omega) (by show n + 0 + 0 ≤ n + 1750; omega)
set_option maxHeartbeats 4000000 in
theorem lc_rite {G : gp_} {X : ct_} {ad adM : Nat → Nat} {b L i p q k n : Nat} {xs : Nat → Int32} {μ ν μ1 ν1 : mu_T} {nl : Nat} {ret9 : Option FieldType} (C : cx_ G X code "UrnHeapLaw" room_1 ret9 8) (Sx : sx_ X b L xs) (hi : i + 4 ≤ L) (hL : L ≤ 2048) (hk : k + 25 ≤ 600000 ∧ n + 1750 ≤ 7302250) {r : Int} (hX : f_X11_rite μ = some (r, μ1)) (hM : f_X12_rite ν = some (r, ν1)) (next : ∀ p q k2 n2, k2 ≤ k + 25 → n2 ≤ n + 1750 → wy_ G X ad adM p q μ1 ν1 k2 n2 1067 [(3, .int (iI (i : Nat))), (0, .ref b), (1, .ref (ad 132)), (2, .ref (adM 0))] []) : wy_ G X ad adM p q μ ν k n 561 [(3, .int (iI (i : Nat))), (0, .ref b), (1, .ref (ad 132)), (2, .ref (adM 0))] [] := by
  refine xx_aload_n C 562 rfl 2 dL_law_561 rfl rfl ?_
  refine yX_i (st := []) (As := []) C 565 rfl rfl ca_X11_rite cv_X11_rite w_650 rfl ⟨(Nat.le_of_ble_eq_true rfl), (Nat.le_of_ble_eq_true rfl)⟩ ⟨by show k + 0 ≤ 600000; omega, by show n + 0 ≤ 7302250; omega⟩ (Nat.le_of_ble_eq_true rfl) dL_law_562 (c_X11_rite μ r μ1 hX) ?_ rfl
  refine xx_aload_n C 566 rfl 3 dL_law_565 rfl rfl ?_
  refine yM_i (st := [.int (iI r)]) (As := []) C 569 rfl rfl ca_X12_rite cv_X12_rite w_1403 rfl ⟨(Nat.le_of_ble_eq_true rfl), (Nat.le_of_ble_eq_true rfl)⟩ ⟨by show k + 0 + 0 ≤ 600000; omega, by show n + 0 + 0 ≤ 7302250; omega⟩ (Nat.le_of_ble_eq_true rfl) dL_law_566 (c_X12_rite ν r ν1 hM) ?_ rfl
  refine xx_icmp_eq (tgt := 1067) (t := some ()) (f := none) (r := ()) C 572 rfl dL_law_569 (by decide) (by unfold eq_; exact if_pos rfl) (fun _ => ?_) (fun h => nn_ h)
  exact next p q _ _ (by show k + 0 + 0 ≤ k + 25; omega) (by show n + 0 + 0 ≤ n + 1750; omega)
set_option maxHeartbeats 4000000 in
theorem lc_due {G : gp_} {X : ct_} {ad adM : Nat → Nat} {b L i p q k n : Nat} {xs : Nat → Int32} {μ ν : mu_T} {nl : Nat} {ret9 : Option FieldType} (C : cx_ G X code "UrnHeapLaw" room_1 ret9 8) (Sx : sx_ X b L xs) (hi : i + 4 ≤ L) (hL : L ≤ 2048) (hk : k + 25 ≤ 600000 ∧ n + 1750 ≤ 7302250) {r : Int} (hX : f_X11_due μ (sv_ xs i 1) = some r) (hM : f_X12_due ν (sv_ xs i 1) = some r) (next : ∀ p q k2 n2, k2 ≤ k + 25 → n2 ≤ n + 1750 → wy_ G X ad adM p q μ ν k2 n2 1067 [(3, .int (iI (i : Nat))), (0, .ref b), (1, .ref (ad 132)), (2, .ref (adM 0))] []) : wy_ G X ad adM p q μ ν k n 574 [(3, .int (iI (i : Nat))), (0, .ref b), (1, .ref (ad 132)), (2, .ref (adM 0))] [] := by
  refine xx_aload_n C 575 rfl 2 dL_law_574 rfl rfl ?_
  refine xx_aload_n C 576 rfl 1 dL_law_575 rfl rfl ?_
  refine xx_iload_n C 577 rfl 0 dL_law_576 rfl rfl ?_
  refine xx_iconst C 578 rfl dL_law_577 ?_
  refine xx_iadd C 579 rfl dL_law_578 ?_
  refine xx_sld C Sx 580 rfl i 1 (by omega) (by omega) (by omega) dL_law_579 ?_
  refine yX_i (st := []) (As := [.int (iI (sv_ xs i 1))]) C 583 rfl rfl ca_X11_due cv_X11_due w_658 rfl ⟨(Nat.le_of_ble_eq_true rfl), (Nat.le_of_ble_eq_true rfl)⟩ ⟨by show k + 0 ≤ 600000; omega, by show n + 0 ≤ 7302250; omega⟩ (Nat.le_of_ble_eq_true rfl) dL_law_580 (c_X11_due μ (sv_ xs i 1) r hX) ?_ rfl
  refine xx_aload_n C 584 rfl 3 dL_law_583 rfl rfl ?_
  refine xx_aload_n C 585 rfl 1 dL_law_584 rfl rfl ?_
  refine xx_iload_n C 586 rfl 0 dL_law_585 rfl rfl ?_
  refine xx_iconst C 587 rfl dL_law_586 ?_
  refine xx_iadd C 588 rfl dL_law_587 ?_
  refine xx_sld C Sx 589 rfl i 1 (by omega) (by omega) (by omega) dL_law_588 ?_
  refine yM_i (st := [.int (iI r)]) (As := [.int (iI (sv_ xs i 1))]) C 592 rfl rfl ca_X12_due cv_X12_due w_1411 rfl ⟨(Nat.le_of_ble_eq_true rfl), (Nat.le_of_ble_eq_true rfl)⟩ ⟨by show k + 0 + 0 ≤ 600000; omega, by show n + 0 + 0 ≤ 7302250; omega⟩ (Nat.le_of_ble_eq_true rfl) dL_law_589 (c_X12_due ν (sv_ xs i 1) r hM) ?_ rfl
  refine xx_icmp_eq (tgt := 1067) (t := some ()) (f := none) (r := ()) C 595 rfl dL_law_592 (by decide) (by unfold eq_; exact if_pos rfl) (fun _ => ?_) (fun h => nn_ h)
  exact next p q _ _ (by show k + 0 + 0 ≤ k + 25; omega) (by show n + 0 + 0 ≤ n + 1750; omega)
set_option maxHeartbeats 4000000 in
theorem lc_grey {G : gp_} {X : ct_} {ad adM : Nat → Nat} {b L i p q k n : Nat} {xs : Nat → Int32} {μ ν : mu_T} {nl : Nat} {ret9 : Option FieldType} (C : cx_ G X code "UrnHeapLaw" room_1 ret9 8) (Sx : sx_ X b L xs) (hi : i + 4 ≤ L) (hL : L ≤ 2048) (hk : k + 25 ≤ 600000 ∧ n + 1750 ≤ 7302250) {r : Int} (hX : f_X11_grey μ (sv_ xs i 1) = some r) (hM : f_X12_grey ν (sv_ xs i 1) = some r) (next : ∀ p q k2 n2, k2 ≤ k + 25 → n2 ≤ n + 1750 → wy_ G X ad adM p q μ ν k2 n2 1067 [(3, .int (iI (i : Nat))), (0, .ref b), (1, .ref (ad 132)), (2, .ref (adM 0))] []) : wy_ G X ad adM p q μ ν k n 597 [(3, .int (iI (i : Nat))), (0, .ref b), (1, .ref (ad 132)), (2, .ref (adM 0))] [] := by
  refine xx_aload_n C 598 rfl 2 dL_law_597 rfl rfl ?_
  refine xx_aload_n C 599 rfl 1 dL_law_598 rfl rfl ?_
  refine xx_iload_n C 600 rfl 0 dL_law_599 rfl rfl ?_
  refine xx_iconst C 601 rfl dL_law_600 ?_
  refine xx_iadd C 602 rfl dL_law_601 ?_
  refine xx_sld C Sx 603 rfl i 1 (by omega) (by omega) (by omega) dL_law_602 ?_
  refine yX_i (st := []) (As := [.int (iI (sv_ xs i 1))]) C 606 rfl rfl ca_X11_grey cv_X11_grey w_663 rfl ⟨(Nat.le_of_ble_eq_true rfl), (Nat.le_of_ble_eq_true rfl)⟩ ⟨by show k + 0 ≤ 600000; omega, by show n + 0 ≤ 7302250; omega⟩ (Nat.le_of_ble_eq_true rfl) dL_law_603 (c_X11_grey μ (sv_ xs i 1) r hX) ?_ rfl
  refine xx_aload_n C 607 rfl 3 dL_law_606 rfl rfl ?_
  refine xx_aload_n C 608 rfl 1 dL_law_607 rfl rfl ?_
  refine xx_iload_n C 609 rfl 0 dL_law_608 rfl rfl ?_
  refine xx_iconst C 610 rfl dL_law_609 ?_
  refine xx_iadd C 611 rfl dL_law_610 ?_
  refine xx_sld C Sx 612 rfl i 1 (by omega) (by omega) (by omega) dL_law_611 ?_
  refine yM_i (st := [.int (iI r)]) (As := [.int (iI (sv_ xs i 1))]) C 615 rfl rfl ca_X12_grey cv_X12_grey w_1415 rfl ⟨(Nat.le_of_ble_eq_true rfl), (Nat.le_of_ble_eq_true rfl)⟩ ⟨by show k + 0 + 0 ≤ 600000; omega, by show n + 0 + 0 ≤ 7302250; omega⟩ (Nat.le_of_ble_eq_true rfl) dL_law_612 (c_X12_grey ν (sv_ xs i 1) r hM) ?_ rfl
  refine xx_icmp_eq (tgt := 1067) (t := some ()) (f := none) (r := ()) C 618 rfl dL_law_615 (by decide) (by unfold eq_; exact if_pos rfl) (fun _ => ?_) (fun h => nn_ h)
  exact next p q _ _ (by show k + 0 + 0 ≤ k + 25; omega) (by show n + 0 + 0 ≤ n + 1750; omega)
set_option maxHeartbeats 4000000 in
theorem lc_freed {G : gp_} {X : ct_} {ad adM : Nat → Nat} {b L i p q k n : Nat} {xs : Nat → Int32} {μ ν : mu_T} {nl : Nat} {ret9 : Option FieldType} (C : cx_ G X code "UrnHeapLaw" room_1 ret9 8) (Sx : sx_ X b L xs) (hi : i + 4 ≤ L) (hL : L ≤ 2048) (hk : k + 25 ≤ 600000 ∧ n + 1750 ≤ 7302250) {r : Int} (hX : f_X11_freed μ (sv_ xs i 1) = some r) (hM : f_X12_freed ν (sv_ xs i 1) = some r) (next : ∀ p q k2 n2, k2 ≤ k + 25 → n2 ≤ n + 1750 → wy_ G X ad adM p q μ ν k2 n2 1067 [(3, .int (iI (i : Nat))), (0, .ref b), (1, .ref (ad 132)), (2, .ref (adM 0))] []) : wy_ G X ad adM p q μ ν k n 620 [(3, .int (iI (i : Nat))), (0, .ref b), (1, .ref (ad 132)), (2, .ref (adM 0))] [] := by
  refine xx_aload_n C 621 rfl 2 dL_law_620 rfl rfl ?_
  refine xx_aload_n C 622 rfl 1 dL_law_621 rfl rfl ?_
  refine xx_iload_n C 623 rfl 0 dL_law_622 rfl rfl ?_
  refine xx_iconst C 624 rfl dL_law_623 ?_
  refine xx_iadd C 625 rfl dL_law_624 ?_
  refine xx_sld C Sx 626 rfl i 1 (by omega) (by omega) (by omega) dL_law_625 ?_
  refine yX_i (st := []) (As := [.int (iI (sv_ xs i 1))]) C 629 rfl rfl ca_X11_freed cv_X11_freed w_667 rfl ⟨(Nat.le_of_ble_eq_true rfl), (Nat.le_of_ble_eq_true rfl)⟩ ⟨by show k + 0 ≤ 600000; omega, by show n + 0 ≤ 7302250; omega⟩ (Nat.le_of_ble_eq_true rfl) dL_law_626 (c_X11_freed μ (sv_ xs i 1) r hX) ?_ rfl
  refine xx_aload_n C 630 rfl 3 dL_law_629 rfl rfl ?_
  refine xx_aload_n C 631 rfl 1 dL_law_630 rfl rfl ?_
  refine xx_iload_n C 632 rfl 0 dL_law_631 rfl rfl ?_
  refine xx_iconst C 633 rfl dL_law_632 ?_
  refine xx_iadd C 634 rfl dL_law_633 ?_
  refine xx_sld C Sx 635 rfl i 1 (by omega) (by omega) (by omega) dL_law_634 ?_
  refine yM_i (st := [.int (iI r)]) (As := [.int (iI (sv_ xs i 1))]) C 638 rfl rfl ca_X12_freed cv_X12_freed w_1419 rfl ⟨(Nat.le_of_ble_eq_true rfl), (Nat.le_of_ble_eq_true rfl)⟩ ⟨by show k + 0 + 0 ≤ 600000; omega, by show n + 0 + 0 ≤ 7302250; omega⟩ (Nat.le_of_ble_eq_true rfl) dL_law_635 (c_X12_freed ν (sv_ xs i 1) r hM) ?_ rfl
  refine xx_icmp_eq (tgt := 1067) (t := some ()) (f := none) (r := ()) C 641 rfl dL_law_638 (by decide) (by unfold eq_; exact if_pos rfl) (fun _ => ?_) (fun h => nn_ h)
  exact next p q _ _ (by show k + 0 + 0 ≤ k + 25; omega) (by show n + 0 + 0 ≤ n + 1750; omega)
set_option maxHeartbeats 4000000 in
theorem lc_live {G : gp_} {X : ct_} {ad adM : Nat → Nat} {b L i p q k n : Nat} {xs : Nat → Int32} {μ ν ν1 : mu_T} {nl : Nat} {ret9 : Option FieldType} (C : cx_ G X code "UrnHeapLaw" room_1 ret9 8) (Sx : sx_ X b L xs) (hi : i + 4 ≤ L) (hL : L ≤ 2048) (hk : k + 25 ≤ 600000 ∧ n + 1750 ≤ 7302250) {r : Int} (hX : f_X11_live μ = some r) (hM : f_X12_live ν = some (r, ν1)) (next : ∀ p q k2 n2, k2 ≤ k + 25 → n2 ≤ n + 1750 → wy_ G X ad adM p q μ ν1 k2 n2 1067 [(3, .int (iI (i : Nat))), (0, .ref b), (1, .ref (ad 132)), (2, .ref (adM 0))] []) : wy_ G X ad adM p q μ ν k n 643 [(3, .int (iI (i : Nat))), (0, .ref b), (1, .ref (ad 132)), (2, .ref (adM 0))] [] := by
  refine xx_aload_n C 644 rfl 2 dL_law_643 rfl rfl ?_
  refine yX_i (st := []) (As := []) C 647 rfl rfl ca_X11_live cv_X11_live w_675 rfl ⟨(Nat.le_of_ble_eq_true rfl), (Nat.le_of_ble_eq_true rfl)⟩ ⟨by show k + 0 ≤ 600000; omega, by show n + 0 ≤ 7302250; omega⟩ (Nat.le_of_ble_eq_true rfl) dL_law_644 (c_X11_live μ r hX) ?_ rfl
  refine xx_aload_n C 648 rfl 3 dL_law_647 rfl rfl ?_
  refine yM_i (st := [.int (iI r)]) (As := []) C 651 rfl rfl ca_X12_live cv_X12_live w_1423 rfl ⟨(Nat.le_of_ble_eq_true rfl), (Nat.le_of_ble_eq_true rfl)⟩ ⟨by show k + 0 + 0 ≤ 600000; omega, by show n + 0 + 0 ≤ 7302250; omega⟩ (Nat.le_of_ble_eq_true rfl) dL_law_648 (c_X12_live ν r ν1 hM) ?_ rfl
  refine xx_icmp_eq (tgt := 1067) (t := some ()) (f := none) (r := ()) C 654 rfl dL_law_651 (by decide) (by unfold eq_; exact if_pos rfl) (fun _ => ?_) (fun h => nn_ h)
  exact next p q _ _ (by show k + 0 + 0 ≤ k + 25; omega) (by show n + 0 + 0 ≤ n + 1750; omega)
set_option maxHeartbeats 4000000 in
theorem lc_liveAgain {G : gp_} {X : ct_} {ad adM : Nat → Nat} {b L i p q k n : Nat} {xs : Nat → Int32} {μ ν ν1 : mu_T} {nl : Nat} {ret9 : Option FieldType} (C : cx_ G X code "UrnHeapLaw" room_1 ret9 8) (Sx : sx_ X b L xs) (hi : i + 4 ≤ L) (hL : L ≤ 2048) (hk : k + 25 ≤ 600000 ∧ n + 1750 ≤ 7302250) {r : Int} (hX : f_X11_liveAgain μ = some r) (hM : f_X12_liveAgain ν = some (r, ν1)) (next : ∀ p q k2 n2, k2 ≤ k + 25 → n2 ≤ n + 1750 → wy_ G X ad adM p q μ ν1 k2 n2 1067 [(3, .int (iI (i : Nat))), (0, .ref b), (1, .ref (ad 132)), (2, .ref (adM 0))] []) : wy_ G X ad adM p q μ ν k n 656 [(3, .int (iI (i : Nat))), (0, .ref b), (1, .ref (ad 132)), (2, .ref (adM 0))] [] := by
  refine xx_aload_n C 657 rfl 2 dL_law_656 rfl rfl ?_
  refine yX_i (st := []) (As := []) C 660 rfl rfl ca_X11_liveAgain cv_X11_liveAgain w_712 rfl ⟨(Nat.le_of_ble_eq_true rfl), (Nat.le_of_ble_eq_true rfl)⟩ ⟨by show k + 0 ≤ 600000; omega, by show n + 0 ≤ 7302250; omega⟩ (Nat.le_of_ble_eq_true rfl) dL_law_657 (c_X11_liveAgain μ r hX) ?_ rfl
  refine xx_aload_n C 661 rfl 3 dL_law_660 rfl rfl ?_
  refine yM_i (st := [.int (iI r)]) (As := []) C 664 rfl rfl ca_X12_liveAgain cv_X12_liveAgain w_1439 rfl ⟨(Nat.le_of_ble_eq_true rfl), (Nat.le_of_ble_eq_true rfl)⟩ ⟨by show k + 0 + 0 ≤ 600000; omega, by show n + 0 + 0 ≤ 7302250; omega⟩ (Nat.le_of_ble_eq_true rfl) dL_law_661 (c_X12_liveAgain ν r ν1 hM) ?_ rfl
  refine xx_icmp_eq (tgt := 1067) (t := some ()) (f := none) (r := ()) C 667 rfl dL_law_664 (by decide) (by unfold eq_; exact if_pos rfl) (fun _ => ?_) (fun h => nn_ h)
  exact next p q _ _ (by show k + 0 + 0 ≤ k + 25; omega) (by show n + 0 + 0 ≤ n + 1750; omega)
set_option maxHeartbeats 4000000 in
theorem lc_depth {G : gp_} {X : ct_} {ad adM : Nat → Nat} {b L i p q k n : Nat} {xs : Nat → Int32} {μ ν ν1 : mu_T} {nl : Nat} {ret9 : Option FieldType} (C : cx_ G X code "UrnHeapLaw" room_1 ret9 8) (Sx : sx_ X b L xs) (hi : i + 4 ≤ L) (hL : L ≤ 2048) (hk : k + 25 ≤ 600000 ∧ n + 1750 ≤ 7302250) {r : Int} (hX : f_X11_depth μ (sv_ xs i 1) = some r) (hM : f_X12_depth ν (sv_ xs i 1) = some (r, ν1)) (next : ∀ p q k2 n2, k2 ≤ k + 25 → n2 ≤ n + 1750 → wy_ G X ad adM p q μ ν1 k2 n2 1067 [(3, .int (iI (i : Nat))), (0, .ref b), (1, .ref (ad 132)), (2, .ref (adM 0))] []) : wy_ G X ad adM p q μ ν k n 669 [(3, .int (iI (i : Nat))), (0, .ref b), (1, .ref (ad 132)), (2, .ref (adM 0))] [] := by
  refine xx_aload_n C 670 rfl 2 dL_law_669 rfl rfl ?_
  refine xx_aload_n C 671 rfl 1 dL_law_670 rfl rfl ?_
  refine xx_iload_n C 672 rfl 0 dL_law_671 rfl rfl ?_
  refine xx_iconst C 673 rfl dL_law_672 ?_
  refine xx_iadd C 674 rfl dL_law_673 ?_
  refine xx_sld C Sx 675 rfl i 1 (by omega) (by omega) (by omega) dL_law_674 ?_
  refine yX_i (st := []) (As := [.int (iI (sv_ xs i 1))]) C 678 rfl rfl ca_X11_depth cv_X11_depth w_724 rfl ⟨(Nat.le_of_ble_eq_true rfl), (Nat.le_of_ble_eq_true rfl)⟩ ⟨by show k + 0 ≤ 600000; omega, by show n + 0 ≤ 7302250; omega⟩ (Nat.le_of_ble_eq_true rfl) dL_law_675 (c_X11_depth μ (sv_ xs i 1) r hX) ?_ rfl
  refine xx_aload_n C 679 rfl 3 dL_law_678 rfl rfl ?_
  refine xx_aload_n C 680 rfl 1 dL_law_679 rfl rfl ?_
  refine xx_iload_n C 681 rfl 0 dL_law_680 rfl rfl ?_
  refine xx_iconst C 682 rfl dL_law_681 ?_
  refine xx_iadd C 683 rfl dL_law_682 ?_
  refine xx_sld C Sx 684 rfl i 1 (by omega) (by omega) (by omega) dL_law_683 ?_
  refine yM_i (st := [.int (iI r)]) (As := [.int (iI (sv_ xs i 1))]) C 687 rfl rfl ca_X12_depth cv_X12_depth w_1444 rfl ⟨(Nat.le_of_ble_eq_true rfl), (Nat.le_of_ble_eq_true rfl)⟩ ⟨by show k + 0 + 0 ≤ 600000; omega, by show n + 0 + 0 ≤ 7302250; omega⟩ (Nat.le_of_ble_eq_true rfl) dL_law_684 (c_X12_depth ν (sv_ xs i 1) r ν1 hM) ?_ rfl
  refine xx_icmp_eq (tgt := 1067) (t := some ()) (f := none) (r := ()) C 690 rfl dL_law_687 (by decide) (by unfold eq_; exact if_pos rfl) (fun _ => ?_) (fun h => nn_ h)
  exact next p q _ _ (by show k + 0 + 0 ≤ k + 25; omega) (by show n + 0 + 0 ≤ n + 1750; omega)
set_option maxHeartbeats 4000000 in
theorem lc_keepers {G : gp_} {X : ct_} {ad adM : Nat → Nat} {b L i p q k n : Nat} {xs : Nat → Int32} {μ ν ν1 : mu_T} {nl : Nat} {ret9 : Option FieldType} (C : cx_ G X code "UrnHeapLaw" room_1 ret9 8) (Sx : sx_ X b L xs) (hi : i + 4 ≤ L) (hL : L ≤ 2048) (hk : k + 25 ≤ 600000 ∧ n + 1750 ≤ 7302250) {r : Int} (hX : f_X11_keepers μ (sv_ xs i 1) = some r) (hM : f_X12_keepers ν (sv_ xs i 1) = some (r, ν1)) (next : ∀ p q k2 n2, k2 ≤ k + 25 → n2 ≤ n + 1750 → wy_ G X ad adM p q μ ν1 k2 n2 1067 [(3, .int (iI (i : Nat))), (0, .ref b), (1, .ref (ad 132)), (2, .ref (adM 0))] []) : wy_ G X ad adM p q μ ν k n 692 [(3, .int (iI (i : Nat))), (0, .ref b), (1, .ref (ad 132)), (2, .ref (adM 0))] [] := by
  refine xx_aload_n C 693 rfl 2 dL_law_692 rfl rfl ?_
  refine xx_aload_n C 694 rfl 1 dL_law_693 rfl rfl ?_
  refine xx_iload_n C 695 rfl 0 dL_law_694 rfl rfl ?_
  refine xx_iconst C 696 rfl dL_law_695 ?_
  refine xx_iadd C 697 rfl dL_law_696 ?_
  refine xx_sld C Sx 698 rfl i 1 (by omega) (by omega) (by omega) dL_law_697 ?_
  refine yX_i (st := []) (As := [.int (iI (sv_ xs i 1))]) C 701 rfl rfl ca_X11_keepers cv_X11_keepers w_733 rfl ⟨(Nat.le_of_ble_eq_true rfl), (Nat.le_of_ble_eq_true rfl)⟩ ⟨by show k + 0 ≤ 600000; omega, by show n + 0 ≤ 7302250; omega⟩ (Nat.le_of_ble_eq_true rfl) dL_law_698 (c_X11_keepers μ (sv_ xs i 1) r hX) ?_ rfl
  refine xx_aload_n C 702 rfl 3 dL_law_701 rfl rfl ?_
  refine xx_aload_n C 703 rfl 1 dL_law_702 rfl rfl ?_
  refine xx_iload_n C 704 rfl 0 dL_law_703 rfl rfl ?_
  refine xx_iconst C 705 rfl dL_law_704 ?_
  refine xx_iadd C 706 rfl dL_law_705 ?_
  refine xx_sld C Sx 707 rfl i 1 (by omega) (by omega) (by omega) dL_law_706 ?_
  refine yM_i (st := [.int (iI r)]) (As := [.int (iI (sv_ xs i 1))]) C 710 rfl rfl ca_X12_keepers cv_X12_keepers w_1448 rfl ⟨(Nat.le_of_ble_eq_true rfl), (Nat.le_of_ble_eq_true rfl)⟩ ⟨by show k + 0 + 0 ≤ 600000; omega, by show n + 0 + 0 ≤ 7302250; omega⟩ (Nat.le_of_ble_eq_true rfl) dL_law_707 (c_X12_keepers ν (sv_ xs i 1) r ν1 hM) ?_ rfl
  refine xx_icmp_eq (tgt := 1067) (t := some ()) (f := none) (r := ()) C 713 rfl dL_law_710 (by decide) (by unfold eq_; exact if_pos rfl) (fun _ => ?_) (fun h => nn_ h)
  exact next p q _ _ (by show k + 0 + 0 ≤ k + 25; omega) (by show n + 0 + 0 ≤ n + 1750; omega)
set_option maxHeartbeats 4000000 in
theorem lc_ring {G : gp_} {X : ct_} {ad adM : Nat → Nat} {b L i p q k n : Nat} {xs : Nat → Int32} {μ ν ν1 : mu_T} {nl : Nat} {ret9 : Option FieldType} (C : cx_ G X code "UrnHeapLaw" room_1 ret9 8) (Sx : sx_ X b L xs) (hi : i + 4 ≤ L) (hL : L ≤ 2048) (hk : k + 25 ≤ 600000 ∧ n + 1750 ≤ 7302250) {r : Int} (hX : f_X11_ring μ (sv_ xs i 1) = some r) (hM : f_X12_ring ν (sv_ xs i 1) = some (r, ν1)) (next : ∀ p q k2 n2, k2 ≤ k + 25 → n2 ≤ n + 1750 → wy_ G X ad adM p q μ ν1 k2 n2 1067 [(3, .int (iI (i : Nat))), (0, .ref b), (1, .ref (ad 132)), (2, .ref (adM 0))] []) : wy_ G X ad adM p q μ ν k n 715 [(3, .int (iI (i : Nat))), (0, .ref b), (1, .ref (ad 132)), (2, .ref (adM 0))] [] := by
  refine xx_aload_n C 716 rfl 2 dL_law_715 rfl rfl ?_
  refine xx_aload_n C 717 rfl 1 dL_law_716 rfl rfl ?_
  refine xx_iload_n C 718 rfl 0 dL_law_717 rfl rfl ?_
  refine xx_iconst C 719 rfl dL_law_718 ?_
  refine xx_iadd C 720 rfl dL_law_719 ?_
  refine xx_sld C Sx 721 rfl i 1 (by omega) (by omega) (by omega) dL_law_720 ?_
  refine yX_i (st := []) (As := [.int (iI (sv_ xs i 1))]) C 724 rfl rfl ca_X11_ring cv_X11_ring w_742 rfl ⟨(Nat.le_of_ble_eq_true rfl), (Nat.le_of_ble_eq_true rfl)⟩ ⟨by show k + 0 ≤ 600000; omega, by show n + 0 ≤ 7302250; omega⟩ (Nat.le_of_ble_eq_true rfl) dL_law_721 (c_X11_ring μ (sv_ xs i 1) r hX) ?_ rfl
  refine xx_aload_n C 725 rfl 3 dL_law_724 rfl rfl ?_
  refine xx_aload_n C 726 rfl 1 dL_law_725 rfl rfl ?_
  refine xx_iload_n C 727 rfl 0 dL_law_726 rfl rfl ?_
  refine xx_iconst C 728 rfl dL_law_727 ?_
  refine xx_iadd C 729 rfl dL_law_728 ?_
  refine xx_sld C Sx 730 rfl i 1 (by omega) (by omega) (by omega) dL_law_729 ?_
  refine yM_i (st := [.int (iI r)]) (As := [.int (iI (sv_ xs i 1))]) C 733 rfl rfl ca_X12_ring cv_X12_ring w_1452 rfl ⟨(Nat.le_of_ble_eq_true rfl), (Nat.le_of_ble_eq_true rfl)⟩ ⟨by show k + 0 + 0 ≤ 600000; omega, by show n + 0 + 0 ≤ 7302250; omega⟩ (Nat.le_of_ble_eq_true rfl) dL_law_730 (c_X12_ring ν (sv_ xs i 1) r ν1 hM) ?_ rfl
  refine xx_icmp_eq (tgt := 1067) (t := some ()) (f := none) (r := ()) C 736 rfl dL_law_733 (by decide) (by unfold eq_; exact if_pos rfl) (fun _ => ?_) (fun h => nn_ h)
  exact next p q _ _ (by show k + 0 + 0 ≤ k + 25; omega) (by show n + 0 + 0 ≤ n + 1750; omega)
set_option maxHeartbeats 4000000 in
theorem lc_wouldFree {G : gp_} {X : ct_} {ad adM : Nat → Nat} {b L i p q k n : Nat} {xs : Nat → Int32} {μ ν ν1 : mu_T} {nl : Nat} {ret9 : Option FieldType} (C : cx_ G X code "UrnHeapLaw" room_1 ret9 8) (Sx : sx_ X b L xs) (hi : i + 4 ≤ L) (hL : L ≤ 2048) (hk : k + 25 ≤ 600000 ∧ n + 1750 ≤ 7302250) {r : Int} (hX : f_X11_wouldFree μ = some r) (hM : f_X12_wouldFree ν = some (r, ν1)) (next : ∀ p q k2 n2, k2 ≤ k + 25 → n2 ≤ n + 1750 → wy_ G X ad adM p q μ ν1 k2 n2 1067 [(3, .int (iI (i : Nat))), (0, .ref b), (1, .ref (ad 132)), (2, .ref (adM 0))] []) : wy_ G X ad adM p q μ ν k n 738 [(3, .int (iI (i : Nat))), (0, .ref b), (1, .ref (ad 132)), (2, .ref (adM 0))] [] := by
  refine xx_aload_n C 739 rfl 2 dL_law_738 rfl rfl ?_
  refine yX_i (st := []) (As := []) C 742 rfl rfl ca_X11_wouldFree cv_X11_wouldFree w_751 rfl ⟨(Nat.le_of_ble_eq_true rfl), (Nat.le_of_ble_eq_true rfl)⟩ ⟨by show k + 0 ≤ 600000; omega, by show n + 0 ≤ 7302250; omega⟩ (Nat.le_of_ble_eq_true rfl) dL_law_739 (c_X11_wouldFree μ r hX) ?_ rfl
  refine xx_aload_n C 743 rfl 3 dL_law_742 rfl rfl ?_
  refine yM_i (st := [.int (iI r)]) (As := []) C 746 rfl rfl ca_X12_wouldFree cv_X12_wouldFree w_1456 rfl ⟨(Nat.le_of_ble_eq_true rfl), (Nat.le_of_ble_eq_true rfl)⟩ ⟨by show k + 0 + 0 ≤ 600000; omega, by show n + 0 + 0 ≤ 7302250; omega⟩ (Nat.le_of_ble_eq_true rfl) dL_law_743 (c_X12_wouldFree ν r ν1 hM) ?_ rfl
  refine xx_icmp_eq (tgt := 1067) (t := some ()) (f := none) (r := ()) C 749 rfl dL_law_746 (by decide) (by unfold eq_; exact if_pos rfl) (fun _ => ?_) (fun h => nn_ h)
  exact next p q _ _ (by show k + 0 + 0 ≤ k + 25; omega) (by show n + 0 + 0 ≤ n + 1750; omega)
set_option maxHeartbeats 4000000 in
theorem lc_ranked {G : gp_} {X : ct_} {ad adM : Nat → Nat} {b L i p q k n : Nat} {xs : Nat → Int32} {μ ν μ1 : mu_T} {nl : Nat} {ret9 : Option FieldType} (C : cx_ G X code "UrnHeapLaw" room_1 ret9 8) (Sx : sx_ X b L xs) (hi : i + 4 ≤ L) (hL : L ≤ 2048) (hk : k + 25 ≤ 600000 ∧ n + 1750 ≤ 7302250) {r : Int} (hX : f_X11_ranked μ (sv_ xs i 1) = some (r, μ1)) (hM : f_X12_ranked ν (sv_ xs i 1) = some r) (next : ∀ p q k2 n2, k2 ≤ k + 25 → n2 ≤ n + 1750 → wy_ G X ad adM p q μ1 ν k2 n2 1067 [(3, .int (iI (i : Nat))), (0, .ref b), (1, .ref (ad 132)), (2, .ref (adM 0))] []) : wy_ G X ad adM p q μ ν k n 751 [(3, .int (iI (i : Nat))), (0, .ref b), (1, .ref (ad 132)), (2, .ref (adM 0))] [] := by
  refine xx_aload_n C 752 rfl 2 dL_law_751 rfl rfl ?_
  refine xx_aload_n C 753 rfl 1 dL_law_752 rfl rfl ?_
  refine xx_iload_n C 754 rfl 0 dL_law_753 rfl rfl ?_
  refine xx_iconst C 755 rfl dL_law_754 ?_
  refine xx_iadd C 756 rfl dL_law_755 ?_
  refine xx_sld C Sx 757 rfl i 1 (by omega) (by omega) (by omega) dL_law_756 ?_
  refine yX_i (st := []) (As := [.int (iI (sv_ xs i 1))]) C 760 rfl rfl ca_X11_ranked cv_X11_ranked w_759 rfl ⟨(Nat.le_of_ble_eq_true rfl), (Nat.le_of_ble_eq_true rfl)⟩ ⟨by show k + 0 ≤ 600000; omega, by show n + 0 ≤ 7302250; omega⟩ (Nat.le_of_ble_eq_true rfl) dL_law_757 (c_X11_ranked μ (sv_ xs i 1) r μ1 hX) ?_ rfl
  refine xx_aload_n C 761 rfl 3 dL_law_760 rfl rfl ?_
  refine xx_aload_n C 762 rfl 1 dL_law_761 rfl rfl ?_
  refine xx_iload_n C 763 rfl 0 dL_law_762 rfl rfl ?_
  refine xx_iconst C 764 rfl dL_law_763 ?_
  refine xx_iadd C 765 rfl dL_law_764 ?_
  refine xx_sld C Sx 766 rfl i 1 (by omega) (by omega) (by omega) dL_law_765 ?_
  refine yM_i (st := [.int (iI r)]) (As := [.int (iI (sv_ xs i 1))]) C 769 rfl rfl ca_X12_ranked cv_X12_ranked w_1464 rfl ⟨(Nat.le_of_ble_eq_true rfl), (Nat.le_of_ble_eq_true rfl)⟩ ⟨by show k + 0 + 0 ≤ 600000; omega, by show n + 0 + 0 ≤ 7302250; omega⟩ (Nat.le_of_ble_eq_true rfl) dL_law_766 (c_X12_ranked ν (sv_ xs i 1) r hM) ?_ rfl
  refine xx_icmp_eq (tgt := 1067) (t := some ()) (f := none) (r := ()) C 772 rfl dL_law_769 (by decide) (by unfold eq_; exact if_pos rfl) (fun _ => ?_) (fun h => nn_ h)
  exact next p q _ _ (by show k + 0 + 0 ≤ k + 25; omega) (by show n + 0 + 0 ≤ n + 1750; omega)
set_option maxHeartbeats 4000000 in
theorem lc_append {G : gp_} {X : ct_} {ad adM : Nat → Nat} {b L i p q k n : Nat} {xs : Nat → Int32} {μ ν μ1 ν1 : mu_T} {nl : Nat} {ret9 : Option FieldType} (C : cx_ G X code "UrnHeapLaw" room_1 ret9 8) (Sx : sx_ X b L xs) (hi : i + 4 ≤ L) (hL : L ≤ 2048) (hk : k + 25 ≤ 600000 ∧ n + 1750 ≤ 7302250) {r : Int} (hX : f_X11_appendg μ (sv_ xs i 1) = some (r, μ1)) (hM : f_X12_append ν (sv_ xs i 1) = some (r, ν1)) (next : ∀ p q k2 n2, k2 ≤ k + 25 → n2 ≤ n + 1750 → wy_ G X ad adM p q μ1 ν1 k2 n2 1067 [(3, .int (iI (i : Nat))), (0, .ref b), (1, .ref (ad 132)), (2, .ref (adM 0))] []) : wy_ G X ad adM p q μ ν k n 774 [(3, .int (iI (i : Nat))), (0, .ref b), (1, .ref (ad 132)), (2, .ref (adM 0))] [] := by
  refine xx_aload_n C 775 rfl 2 dL_law_774 rfl rfl ?_
  refine xx_aload_n C 776 rfl 1 dL_law_775 rfl rfl ?_
  refine xx_iload_n C 777 rfl 0 dL_law_776 rfl rfl ?_
  refine xx_iconst C 778 rfl dL_law_777 ?_
  refine xx_iadd C 779 rfl dL_law_778 ?_
  refine xx_sld C Sx 780 rfl i 1 (by omega) (by omega) (by omega) dL_law_779 ?_
  refine yX_g (st := []) (As := [.int (iI (sv_ xs i 1))]) C 783 rfl rfl ca_X11_append cv_X11_append w_777 rfl ⟨(Nat.le_of_ble_eq_true rfl), (Nat.le_of_ble_eq_true rfl)⟩ ⟨by show k + 1 ≤ 600000; omega, by show n + 70 ≤ 7302250; omega⟩ (Nat.le_of_ble_eq_true rfl) dL_law_780 (c_X11_appendg p q μ (sv_ xs i 1) r μ1 hX) (fun p q => ?_) rfl
  refine xx_aload_n C 784 rfl 3 dL_law_783 rfl rfl ?_
  refine xx_aload_n C 785 rfl 1 dL_law_784 rfl rfl ?_
  refine xx_iload_n C 786 rfl 0 dL_law_785 rfl rfl ?_
  refine xx_iconst C 787 rfl dL_law_786 ?_
  refine xx_iadd C 788 rfl dL_law_787 ?_
  refine xx_sld C Sx 789 rfl i 1 (by omega) (by omega) (by omega) dL_law_788 ?_
  refine yM_i (st := [.int (iI r)]) (As := [.int (iI (sv_ xs i 1))]) C 792 rfl rfl ca_X12_append cv_X12_append w_1472 rfl ⟨(Nat.le_of_ble_eq_true rfl), (Nat.le_of_ble_eq_true rfl)⟩ ⟨by show k + 1 + 0 ≤ 600000; omega, by show n + 70 + 0 ≤ 7302250; omega⟩ (Nat.le_of_ble_eq_true rfl) dL_law_789 (c_X12_append ν (sv_ xs i 1) r ν1 hM) ?_ rfl
  refine xx_icmp_eq (tgt := 1067) (t := some ()) (f := none) (r := ()) C 795 rfl dL_law_792 (by decide) (by unfold eq_; exact if_pos rfl) (fun _ => ?_) (fun h => nn_ h)
  exact next p q _ _ (by show k + 1 + 0 ≤ k + 25; omega) (by show n + 70 + 0 ≤ n + 1750; omega)
set_option maxHeartbeats 4000000 in
theorem lc_run {G : gp_} {X : ct_} {ad adM : Nat → Nat} {b L i p q k n : Nat} {xs : Nat → Int32} {μ ν μ1 ν1 : mu_T} {nl : Nat} {ret9 : Option FieldType} (C : cx_ G X code "UrnHeapLaw" room_1 ret9 8) (Sx : sx_ X b L xs) (hi : i + 4 ≤ L) (hL : L ≤ 2048) (hk : k + 25 ≤ 600000 ∧ n + 1750 ≤ 7302250) {r : Int} (hX : f_X11_run μ = some (r, μ1)) (hM : f_X12_run ν = some (r, ν1)) (next : ∀ p q k2 n2, k2 ≤ k + 25 → n2 ≤ n + 1750 → wy_ G X ad adM p q μ1 ν1 k2 n2 1067 [(3, .int (iI (i : Nat))), (0, .ref b), (1, .ref (ad 132)), (2, .ref (adM 0))] []) : wy_ G X ad adM p q μ ν k n 797 [(3, .int (iI (i : Nat))), (0, .ref b), (1, .ref (ad 132)), (2, .ref (adM 0))] [] := by
  refine xx_aload_n C 798 rfl 2 dL_law_797 rfl rfl ?_
  refine yX_i (st := []) (As := []) C 801 rfl rfl ca_X11_run cv_X11_run w_883 rfl ⟨(Nat.le_of_ble_eq_true rfl), (Nat.le_of_ble_eq_true rfl)⟩ ⟨by show k + 0 ≤ 600000; omega, by show n + 0 ≤ 7302250; omega⟩ (Nat.le_of_ble_eq_true rfl) dL_law_798 (c_X11_run μ r μ1 hX) ?_ rfl
  refine xx_aload_n C 802 rfl 3 dL_law_801 rfl rfl ?_
  refine yM_i (st := [.int (iI r)]) (As := []) C 805 rfl rfl ca_X12_run cv_X12_run w_1476 rfl ⟨(Nat.le_of_ble_eq_true rfl), (Nat.le_of_ble_eq_true rfl)⟩ ⟨by show k + 0 + 0 ≤ 600000; omega, by show n + 0 + 0 ≤ 7302250; omega⟩ (Nat.le_of_ble_eq_true rfl) dL_law_802 (c_X12_run ν r ν1 hM) ?_ rfl
  refine xx_icmp_eq (tgt := 1067) (t := some ()) (f := none) (r := ()) C 808 rfl dL_law_805 (by decide) (by unfold eq_; exact if_pos rfl) (fun _ => ?_) (fun h => nn_ h)
  exact next p q _ _ (by show k + 0 + 0 ≤ k + 25; omega) (by show n + 0 + 0 ≤ n + 1750; omega)
set_option maxHeartbeats 4000000 in
theorem lc_tell {G : gp_} {X : ct_} {ad adM : Nat → Nat} {b L i p q k n : Nat} {xs : Nat → Int32} {μ ν μ1 ν1 : mu_T} {nl : Nat} {ret9 : Option FieldType} (C : cx_ G X code "UrnHeapLaw" room_1 ret9 8) (Sx : sx_ X b L xs) (hi : i + 4 ≤ L) (hL : L ≤ 2048) (hk : k + 25 ≤ 600000 ∧ n + 1750 ≤ 7302250) {r : Int} (hX : f_X11_tellg μ (sv_ xs i 1) = some (r, μ1)) (hM : f_X12_tell ν (sv_ xs i 1) = some (r, ν1)) (next : ∀ p q k2 n2, k2 ≤ k + 25 → n2 ≤ n + 1750 → wy_ G X ad adM p q μ1 ν1 k2 n2 1067 [(3, .int (iI (i : Nat))), (0, .ref b), (1, .ref (ad 132)), (2, .ref (adM 0))] []) : wy_ G X ad adM p q μ ν k n 810 [(3, .int (iI (i : Nat))), (0, .ref b), (1, .ref (ad 132)), (2, .ref (adM 0))] [] := by
  refine xx_aload_n C 811 rfl 2 dL_law_810 rfl rfl ?_
  refine xx_aload_n C 812 rfl 1 dL_law_811 rfl rfl ?_
  refine xx_iload_n C 813 rfl 0 dL_law_812 rfl rfl ?_
  refine xx_iconst C 814 rfl dL_law_813 ?_
  refine xx_iadd C 815 rfl dL_law_814 ?_
  refine xx_sld C Sx 816 rfl i 1 (by omega) (by omega) (by omega) dL_law_815 ?_
  refine yX_g (st := []) (As := [.int (iI (sv_ xs i 1))]) C 819 rfl rfl ca_X11_tell cv_X11_tell w_1004 rfl ⟨(Nat.le_of_ble_eq_true rfl), (Nat.le_of_ble_eq_true rfl)⟩ ⟨by show k + 12 ≤ 600000; omega, by show n + 840 ≤ 7302250; omega⟩ (Nat.le_of_ble_eq_true rfl) dL_law_816 (c_X11_tellg p q μ (sv_ xs i 1) r μ1 hX) (fun p q => ?_) rfl
  refine xx_aload_n C 820 rfl 3 dL_law_819 rfl rfl ?_
  refine xx_aload_n C 821 rfl 1 dL_law_820 rfl rfl ?_
  refine xx_iload_n C 822 rfl 0 dL_law_821 rfl rfl ?_
  refine xx_iconst C 823 rfl dL_law_822 ?_
  refine xx_iadd C 824 rfl dL_law_823 ?_
  refine xx_sld C Sx 825 rfl i 1 (by omega) (by omega) (by omega) dL_law_824 ?_
  refine yM_i (st := [.int (iI r)]) (As := [.int (iI (sv_ xs i 1))]) C 828 rfl rfl ca_X12_tell cv_X12_tell w_1529 rfl ⟨(Nat.le_of_ble_eq_true rfl), (Nat.le_of_ble_eq_true rfl)⟩ ⟨by show k + 12 + 0 ≤ 600000; omega, by show n + 840 + 0 ≤ 7302250; omega⟩ (Nat.le_of_ble_eq_true rfl) dL_law_825 (c_X12_tell ν (sv_ xs i 1) r ν1 hM) ?_ rfl
  refine xx_icmp_eq (tgt := 1067) (t := some ()) (f := none) (r := ()) C 831 rfl dL_law_828 (by decide) (by unfold eq_; exact if_pos rfl) (fun _ => ?_) (fun h => nn_ h)
  exact next p q _ _ (by show k + 12 + 0 ≤ k + 25; omega) (by show n + 840 + 0 ≤ n + 1750; omega)
set_option maxHeartbeats 4000000 in
theorem lc_tellHeap {G : gp_} {X : ct_} {ad adM : Nat → Nat} {b L i p q k n : Nat} {xs : Nat → Int32} {μ ν μ1 ν1 : mu_T} {nl : Nat} {ret9 : Option FieldType} (C : cx_ G X code "UrnHeapLaw" room_1 ret9 8) (Sx : sx_ X b L xs) (hi : i + 4 ≤ L) (hL : L ≤ 2048) (hk : k + 25 ≤ 600000 ∧ n + 1750 ≤ 7302250) {r : Int} (hX : f_X11_tellHeapg μ = some (r, μ1)) (hM : f_X12_tellHeap ν = some (r, ν1)) (next : ∀ p q k2 n2, k2 ≤ k + 25 → n2 ≤ n + 1750 → wy_ G X ad adM p q μ1 ν1 k2 n2 1067 [(3, .int (iI (i : Nat))), (0, .ref b), (1, .ref (ad 132)), (2, .ref (adM 0))] []) : wy_ G X ad adM p q μ ν k n 833 [(3, .int (iI (i : Nat))), (0, .ref b), (1, .ref (ad 132)), (2, .ref (adM 0))] [] := by
  refine xx_aload_n C 834 rfl 2 dL_law_833 rfl rfl ?_
  refine yX_g (st := []) (As := []) C 837 rfl rfl ca_X11_tellHeap cv_X11_tellHeap w_1059 rfl ⟨(Nat.le_of_ble_eq_true rfl), (Nat.le_of_ble_eq_true rfl)⟩ ⟨by show k + 25 ≤ 600000; omega, by show n + 1750 ≤ 7302250; omega⟩ (Nat.le_of_ble_eq_true rfl) dL_law_834 (c_X11_tellHeapg p q μ r μ1 hX) (fun p q => ?_) rfl
  refine xx_aload_n C 838 rfl 3 dL_law_837 rfl rfl ?_
  refine yM_i (st := [.int (iI r)]) (As := []) C 841 rfl rfl ca_X12_tellHeap cv_X12_tellHeap w_1541 rfl ⟨(Nat.le_of_ble_eq_true rfl), (Nat.le_of_ble_eq_true rfl)⟩ ⟨by show k + 25 + 0 ≤ 600000; omega, by show n + 1750 + 0 ≤ 7302250; omega⟩ (Nat.le_of_ble_eq_true rfl) dL_law_838 (c_X12_tellHeap ν r ν1 hM) ?_ rfl
  refine xx_icmp_eq (tgt := 1067) (t := some ()) (f := none) (r := ()) C 844 rfl dL_law_841 (by decide) (by unfold eq_; exact if_pos rfl) (fun _ => ?_) (fun h => nn_ h)
  exact next p q _ _ (by show k + 25 + 0 ≤ k + 25; omega) (by show n + 1750 + 0 ≤ n + 1750; omega)
set_option maxHeartbeats 4000000 in
theorem lc_character {G : gp_} {X : ct_} {ad adM : Nat → Nat} {b L i p q k n : Nat} {xs : Nat → Int32} {μ ν : mu_T} {nl : Nat} {ret9 : Option FieldType} (C : cx_ G X code "UrnHeapLaw" room_1 ret9 8) (Sx : sx_ X b L xs) (hi : i + 4 ≤ L) (hL : L ≤ 2048) (hk : k + 25 ≤ 600000 ∧ n + 1750 ≤ 7302250) {r : Int} (hX : f_X11_character μ (sv_ xs i 1) = some r) (hM : f_X12_character ν (sv_ xs i 1) = some r) (next : ∀ p q k2 n2, k2 ≤ k + 25 → n2 ≤ n + 1750 → wy_ G X ad adM p q μ ν k2 n2 1067 [(3, .int (iI (i : Nat))), (0, .ref b), (1, .ref (ad 132)), (2, .ref (adM 0))] []) : wy_ G X ad adM p q μ ν k n 846 [(3, .int (iI (i : Nat))), (0, .ref b), (1, .ref (ad 132)), (2, .ref (adM 0))] [] := by
  refine xx_aload_n C 847 rfl 2 dL_law_846 rfl rfl ?_
  refine xx_aload_n C 848 rfl 1 dL_law_847 rfl rfl ?_
  refine xx_iload_n C 849 rfl 0 dL_law_848 rfl rfl ?_
  refine xx_iconst C 850 rfl dL_law_849 ?_
  refine xx_iadd C 851 rfl dL_law_850 ?_
  refine xx_sld C Sx 852 rfl i 1 (by omega) (by omega) (by omega) dL_law_851 ?_
  refine yX_i (st := []) (As := [.int (iI (sv_ xs i 1))]) C 855 rfl rfl ca_X11_character cv_X11_character w_1070 rfl ⟨(Nat.le_of_ble_eq_true rfl), (Nat.le_of_ble_eq_true rfl)⟩ ⟨by show k + 0 ≤ 600000; omega, by show n + 0 ≤ 7302250; omega⟩ (Nat.le_of_ble_eq_true rfl) dL_law_852 (c_X11_character μ (sv_ xs i 1) r hX) ?_ rfl
  refine xx_aload_n C 856 rfl 3 dL_law_855 rfl rfl ?_
  refine xx_aload_n C 857 rfl 1 dL_law_856 rfl rfl ?_
  refine xx_iload_n C 858 rfl 0 dL_law_857 rfl rfl ?_
  refine xx_iconst C 859 rfl dL_law_858 ?_
  refine xx_iadd C 860 rfl dL_law_859 ?_
  refine xx_sld C Sx 861 rfl i 1 (by omega) (by omega) (by omega) dL_law_860 ?_
  refine yM_i (st := [.int (iI r)]) (As := [.int (iI (sv_ xs i 1))]) C 864 rfl rfl ca_X12_character cv_X12_character w_1545 rfl ⟨(Nat.le_of_ble_eq_true rfl), (Nat.le_of_ble_eq_true rfl)⟩ ⟨by show k + 0 + 0 ≤ 600000; omega, by show n + 0 + 0 ≤ 7302250; omega⟩ (Nat.le_of_ble_eq_true rfl) dL_law_861 (c_X12_character ν (sv_ xs i 1) r hM) ?_ rfl
  refine xx_icmp_eq (tgt := 1067) (t := some ()) (f := none) (r := ()) C 867 rfl dL_law_864 (by decide) (by unfold eq_; exact if_pos rfl) (fun _ => ?_) (fun h => nn_ h)
  exact next p q _ _ (by show k + 0 + 0 ≤ k + 25; omega) (by show n + 0 + 0 ≤ n + 1750; omega)
set_option maxHeartbeats 4000000 in
theorem lc_reason {G : gp_} {X : ct_} {ad adM : Nat → Nat} {b L i p q k n : Nat} {xs : Nat → Int32} {μ ν : mu_T} {nl : Nat} {ret9 : Option FieldType} (C : cx_ G X code "UrnHeapLaw" room_1 ret9 8) (Sx : sx_ X b L xs) (hi : i + 4 ≤ L) (hL : L ≤ 2048) (hk : k + 25 ≤ 600000 ∧ n + 1750 ≤ 7302250) {r : Int} (hX : f_X11_reason μ (bv_ (sv_ xs i 1)) = some r) (hM : f_X12_reason ν (bv_ (sv_ xs i 1)) = some r) (next : ∀ p q k2 n2, k2 ≤ k + 25 → n2 ≤ n + 1750 → wy_ G X ad adM p q μ ν k2 n2 1067 [(3, .int (iI (i : Nat))), (0, .ref b), (1, .ref (ad 132)), (2, .ref (adM 0))] []) : wy_ G X ad adM p q μ ν k n 869 [(3, .int (iI (i : Nat))), (0, .ref b), (1, .ref (ad 132)), (2, .ref (adM 0))] [] := by
  refine xx_aload_n C 870 rfl 2 dL_law_869 rfl rfl ?_
  refine xx_aload_n C 871 rfl 1 dL_law_870 rfl rfl ?_
  refine xx_iload_n C 872 rfl 0 dL_law_871 rfl rfl ?_
  refine xx_iconst C 873 rfl dL_law_872 ?_
  refine xx_iadd C 874 rfl dL_law_873 ?_
  refine xx_sld C Sx 875 rfl i 1 (by omega) (by omega) (by omega) dL_law_874 ?_
  refine xx_bool C 882 879 883 (sv_rg xs i 1) rfl rfl rfl dL_law_875 dL_law_878 dL_law_879 dL_law_882 ?_
  refine yX_i (st := []) (As := [.int (iI (bv_ (sv_ xs i 1)))]) C 886 rfl rfl ca_X11_reason cv_X11_reason w_1079 rfl ⟨(Nat.le_of_ble_eq_true rfl), (Nat.le_of_ble_eq_true rfl)⟩ ⟨by show k + 0 ≤ 600000; omega, by show n + 0 ≤ 7302250; omega⟩ (Nat.le_of_ble_eq_true rfl) dL_law_883 (c_X11_reason μ (bv_ (sv_ xs i 1)) r hX) ?_ rfl
  refine xx_aload_n C 887 rfl 3 dL_law_886 rfl rfl ?_
  refine xx_aload_n C 888 rfl 1 dL_law_887 rfl rfl ?_
  refine xx_iload_n C 889 rfl 0 dL_law_888 rfl rfl ?_
  refine xx_iconst C 890 rfl dL_law_889 ?_
  refine xx_iadd C 891 rfl dL_law_890 ?_
  refine xx_sld C Sx 892 rfl i 1 (by omega) (by omega) (by omega) dL_law_891 ?_
  refine xx_bool C 899 896 900 (sv_rg xs i 1) rfl rfl rfl dL_law_892 dL_law_895 dL_law_896 dL_law_899 ?_
  refine yM_i (st := [.int (iI r)]) (As := [.int (iI (bv_ (sv_ xs i 1)))]) C 903 rfl rfl ca_X12_reason cv_X12_reason w_1549 rfl ⟨(Nat.le_of_ble_eq_true rfl), (Nat.le_of_ble_eq_true rfl)⟩ ⟨by show k + 0 + 0 ≤ 600000; omega, by show n + 0 + 0 ≤ 7302250; omega⟩ (Nat.le_of_ble_eq_true rfl) dL_law_900 (c_X12_reason ν (bv_ (sv_ xs i 1)) r hM) ?_ rfl
  refine xx_icmp_eq (tgt := 1067) (t := some ()) (f := none) (r := ()) C 906 rfl dL_law_903 (by decide) (by unfold eq_; exact if_pos rfl) (fun _ => ?_) (fun h => nn_ h)
  exact next p q _ _ (by show k + 0 + 0 ≤ k + 25; omega) (by show n + 0 + 0 ≤ n + 1750; omega)
set_option maxHeartbeats 4000000 in
theorem lc_account {G : gp_} {X : ct_} {ad adM : Nat → Nat} {b L i p q k n : Nat} {xs : Nat → Int32} {μ ν : mu_T} {nl : Nat} {ret9 : Option FieldType} (C : cx_ G X code "UrnHeapLaw" room_1 ret9 8) (Sx : sx_ X b L xs) (hi : i + 4 ≤ L) (hL : L ≤ 2048) (hk : k + 25 ≤ 600000 ∧ n + 1750 ≤ 7302250) {r : Int} (hX : f_X11_account μ (sv_ xs i 1) = some r) (hM : f_X12_account ν (sv_ xs i 1) = some r) (next : ∀ p q k2 n2, k2 ≤ k + 25 → n2 ≤ n + 1750 → wy_ G X ad adM p q μ ν k2 n2 1067 [(3, .int (iI (i : Nat))), (0, .ref b), (1, .ref (ad 132)), (2, .ref (adM 0))] []) : wy_ G X ad adM p q μ ν k n 908 [(3, .int (iI (i : Nat))), (0, .ref b), (1, .ref (ad 132)), (2, .ref (adM 0))] [] := by
  refine xx_aload_n C 909 rfl 2 dL_law_908 rfl rfl ?_
  refine xx_aload_n C 910 rfl 1 dL_law_909 rfl rfl ?_
  refine xx_iload_n C 911 rfl 0 dL_law_910 rfl rfl ?_
  refine xx_iconst C 912 rfl dL_law_911 ?_
  refine xx_iadd C 913 rfl dL_law_912 ?_
  refine xx_sld C Sx 914 rfl i 1 (by omega) (by omega) (by omega) dL_law_913 ?_
  refine yX_i (st := []) (As := [.int (iI (sv_ xs i 1))]) C 917 rfl rfl ca_X11_account cv_X11_account w_1083 rfl ⟨(Nat.le_of_ble_eq_true rfl), (Nat.le_of_ble_eq_true rfl)⟩ ⟨by show k + 0 ≤ 600000; omega, by show n + 0 ≤ 7302250; omega⟩ (Nat.le_of_ble_eq_true rfl) dL_law_914 (c_X11_account μ (sv_ xs i 1) r hX) ?_ rfl
  refine xx_aload_n C 918 rfl 3 dL_law_917 rfl rfl ?_
  refine xx_aload_n C 919 rfl 1 dL_law_918 rfl rfl ?_
  refine xx_iload_n C 920 rfl 0 dL_law_919 rfl rfl ?_
  refine xx_iconst C 921 rfl dL_law_920 ?_
  refine xx_iadd C 922 rfl dL_law_921 ?_
  refine xx_sld C Sx 923 rfl i 1 (by omega) (by omega) (by omega) dL_law_922 ?_
  refine yM_i (st := [.int (iI r)]) (As := [.int (iI (sv_ xs i 1))]) C 926 rfl rfl ca_X12_account cv_X12_account w_1553 rfl ⟨(Nat.le_of_ble_eq_true rfl), (Nat.le_of_ble_eq_true rfl)⟩ ⟨by show k + 0 + 0 ≤ 600000; omega, by show n + 0 + 0 ≤ 7302250; omega⟩ (Nat.le_of_ble_eq_true rfl) dL_law_923 (c_X12_account ν (sv_ xs i 1) r hM) ?_ rfl
  refine xx_icmp_eq (tgt := 1067) (t := some ()) (f := none) (r := ()) C 929 rfl dL_law_926 (by decide) (by unfold eq_; exact if_pos rfl) (fun _ => ?_) (fun h => nn_ h)
  exact next p q _ _ (by show k + 0 + 0 ≤ k + 25; omega) (by show n + 0 + 0 ≤ n + 1750; omega)
set_option maxHeartbeats 4000000 in
theorem lc_isBalanced {G : gp_} {X : ct_} {ad adM : Nat → Nat} {b L i p q k n : Nat} {xs : Nat → Int32} {μ ν : mu_T} {nl : Nat} {ret9 : Option FieldType} (C : cx_ G X code "UrnHeapLaw" room_1 ret9 8) (Sx : sx_ X b L xs) (hi : i + 4 ≤ L) (hL : L ≤ 2048) (hk : k + 25 ≤ 600000 ∧ n + 1750 ≤ 7302250) {r : Int} (hX : f_X11_isBalanced μ = some r) (hM : f_X12_isBalanced ν = some r) (next : ∀ p q k2 n2, k2 ≤ k + 25 → n2 ≤ n + 1750 → wy_ G X ad adM p q μ ν k2 n2 1067 [(3, .int (iI (i : Nat))), (0, .ref b), (1, .ref (ad 132)), (2, .ref (adM 0))] []) : wy_ G X ad adM p q μ ν k n 931 [(3, .int (iI (i : Nat))), (0, .ref b), (1, .ref (ad 132)), (2, .ref (adM 0))] [] := by
  refine xx_aload_n C 932 rfl 2 dL_law_931 rfl rfl ?_
  refine yX_i (st := []) (As := []) C 935 rfl rfl ca_X11_isBalanced cv_X11_isBalanced w_1104 rfl ⟨(Nat.le_of_ble_eq_true rfl), (Nat.le_of_ble_eq_true rfl)⟩ ⟨by show k + 0 ≤ 600000; omega, by show n + 0 ≤ 7302250; omega⟩ (Nat.le_of_ble_eq_true rfl) dL_law_932 (c_X11_isBalanced μ r hX) ?_ rfl
  refine xx_aload_n C 936 rfl 3 dL_law_935 rfl rfl ?_
  refine yM_i (st := [.int (iI r)]) (As := []) C 939 rfl rfl ca_X12_isBalanced cv_X12_isBalanced w_1569 rfl ⟨(Nat.le_of_ble_eq_true rfl), (Nat.le_of_ble_eq_true rfl)⟩ ⟨by show k + 0 + 0 ≤ 600000; omega, by show n + 0 + 0 ≤ 7302250; omega⟩ (Nat.le_of_ble_eq_true rfl) dL_law_936 (c_X12_isBalanced ν r hM) ?_ rfl
  refine xx_icmp_eq (tgt := 1067) (t := some ()) (f := none) (r := ()) C 942 rfl dL_law_939 (by decide) (by unfold eq_; exact if_pos rfl) (fun _ => ?_) (fun h => nn_ h)
  exact next p q _ _ (by show k + 0 + 0 ≤ k + 25; omega) (by show n + 0 + 0 ≤ n + 1750; omega)
set_option maxHeartbeats 4000000 in
theorem lc_meanHeld {G : gp_} {X : ct_} {ad adM : Nat → Nat} {b L i p q k n : Nat} {xs : Nat → Int32} {μ ν : mu_T} {nl : Nat} {ret9 : Option FieldType} (C : cx_ G X code "UrnHeapLaw" room_1 ret9 8) (Sx : sx_ X b L xs) (hi : i + 4 ≤ L) (hL : L ≤ 2048) (hk : k + 25 ≤ 600000 ∧ n + 1750 ≤ 7302250) {d : UInt64} (hX : f_X11_meanHeld μ = some d) (hM : f_X12_meanHeld ν = some d) (hc : Op.cmpValue (FP.dcmp d d) .l = iI 0) (next : ∀ p q k2 n2, k2 ≤ k + 25 → n2 ≤ n + 1750 → wy_ G X ad adM p q μ ν k2 n2 1067 [(3, .int (iI (i : Nat))), (0, .ref b), (1, .ref (ad 132)), (2, .ref (adM 0))] []) : wy_ G X ad adM p q μ ν k n 944 [(3, .int (iI (i : Nat))), (0, .ref b), (1, .ref (ad 132)), (2, .ref (adM 0))] [] := by
  refine xx_aload_n C 945 rfl 2 dL_law_944 rfl rfl ?_
  refine yX_d (st := []) (As := []) C 948 rfl rfl ca_X11_meanHeld cv_X11_meanHeld w_1121 rfl ⟨(Nat.le_of_ble_eq_true rfl), (Nat.le_of_ble_eq_true rfl)⟩ ⟨by show k + 0 ≤ 600000; omega, by show n + 0 ≤ 7302250; omega⟩ (Nat.le_of_ble_eq_true rfl) dL_law_945 (c_X11_meanHeld μ d hX) ?_ rfl
  refine xx_dstore (lv1 := [(4, .double d), (3, .int (iI (i : Nat))), (0, .ref b), (1, .ref (ad 132)), (2, .ref (adM 0))]) C 950 rfl (by decide) dL_law_948 rfl ?_
  refine xx_aload_n C 951 rfl 4 dL_law_950 rfl rfl ?_
  refine yM_d (st := []) (As := []) C 954 rfl rfl ca_X12_meanHeld cv_X12_meanHeld w_1581 rfl ⟨(Nat.le_of_ble_eq_true rfl), (Nat.le_of_ble_eq_true rfl)⟩ ⟨by show k + 0 + 0 ≤ 600000; omega, by show n + 0 + 0 ≤ 7302250; omega⟩ (Nat.le_of_ble_eq_true rfl) dL_law_951 (c_X12_meanHeld ν d hM) ?_ rfl
  refine xx_dstore (lv1 := [(6, .double d), (4, .double d), (3, .int (iI (i : Nat))), (0, .ref b), (1, .ref (ad 132)), (2, .ref (adM 0))]) C 956 rfl (by decide) dL_law_954 rfl ?_
  refine xx_dload C 958 rfl 1 dL_law_956 rfl ?_
  refine xx_dload C 960 rfl 0 dL_law_958 rfl ?_
  refine xx_dcmp (v := 0) C 961 rfl dL_law_960 hc ?_
  refine xx_if_eq (tgt := 982) (t := some ()) (f := none) (r := ()) C 964 rfl dL_law_961 (by decide) (by decide) (fun _ => ?_) (fun h => nn_ h)
  refine xx_goto C 1067 dL_law_982 (by decide) ?_
  refine xx_sub [2, 3, 4, 5] rfl ?_
  exact next p q _ _ (by show k + 0 + 0 ≤ k + 25; omega) (by show n + 0 + 0 ≤ n + 1750; omega)
set_option maxHeartbeats 4000000 in
theorem lc_liveShare {G : gp_} {X : ct_} {ad adM : Nat → Nat} {b L i p q k n : Nat} {xs : Nat → Int32} {μ ν ν1 : mu_T} {nl : Nat} {ret9 : Option FieldType} (C : cx_ G X code "UrnHeapLaw" room_1 ret9 8) (Sx : sx_ X b L xs) (hi : i + 4 ≤ L) (hL : L ≤ 2048) (hk : k + 25 ≤ 600000 ∧ n + 1750 ≤ 7302250) {d : UInt32} (hX : f_X11_liveShare μ = some d) (hM : f_X12_liveShare ν = some (d, ν1)) (hn : vf_n64 (FP.f2d d)) (hc : Op.cmpValue (FP.dcmp (FP.f2d d) (FP.f2d d)) .l = iI 0) (next : ∀ p q k2 n2, k2 ≤ k + 25 → n2 ≤ n + 1750 → wy_ G X ad adM p q μ ν1 k2 n2 1067 [(3, .int (iI (i : Nat))), (0, .ref b), (1, .ref (ad 132)), (2, .ref (adM 0))] []) : wy_ G X ad adM p q μ ν k n 985 [(3, .int (iI (i : Nat))), (0, .ref b), (1, .ref (ad 132)), (2, .ref (adM 0))] [] := by
  refine xx_aload_n C 986 rfl 2 dL_law_985 rfl rfl ?_
  refine yX_f (st := []) (As := []) C 989 rfl rfl ca_X11_liveShare cv_X11_liveShare w_1130 rfl ⟨(Nat.le_of_ble_eq_true rfl), (Nat.le_of_ble_eq_true rfl)⟩ ⟨by show k + 0 ≤ 600000; omega, by show n + 0 ≤ 7302250; omega⟩ (Nat.le_of_ble_eq_true rfl) dL_law_986 (c_X11_liveShare μ d hX) ?_ rfl
  refine xx_f2d C 990 rfl dL_law_989 hn ?_
  refine xx_dstore (lv1 := [(4, .double (FP.f2d d)), (3, .int (iI (i : Nat))), (0, .ref b), (1, .ref (ad 132)), (2, .ref (adM 0))]) C 992 rfl (by decide) dL_law_990 rfl ?_
  refine xx_aload_n C 993 rfl 4 dL_law_992 rfl rfl ?_
  refine yM_f (st := []) (As := []) C 996 rfl rfl ca_X12_liveShare cv_X12_liveShare w_1585 rfl ⟨(Nat.le_of_ble_eq_true rfl), (Nat.le_of_ble_eq_true rfl)⟩ ⟨by show k + 0 + 0 ≤ 600000; omega, by show n + 0 + 0 ≤ 7302250; omega⟩ (Nat.le_of_ble_eq_true rfl) dL_law_993 (c_X12_liveShare ν d ν1 hM) ?_ rfl
  refine xx_f2d C 997 rfl dL_law_996 hn ?_
  refine xx_dstore (lv1 := [(6, .double (FP.f2d d)), (4, .double (FP.f2d d)), (3, .int (iI (i : Nat))), (0, .ref b), (1, .ref (ad 132)), (2, .ref (adM 0))]) C 999 rfl (by decide) dL_law_997 rfl ?_
  refine xx_dload C 1001 rfl 1 dL_law_999 rfl ?_
  refine xx_dload C 1003 rfl 0 dL_law_1001 rfl ?_
  refine xx_dcmp (v := 0) C 1004 rfl dL_law_1003 hc ?_
  refine xx_if_eq (tgt := 1025) (t := some ()) (f := none) (r := ()) C 1007 rfl dL_law_1004 (by decide) (by decide) (fun _ => ?_) (fun h => nn_ h)
  refine xx_goto C 1067 dL_law_1025 (by decide) ?_
  refine xx_sub [2, 3, 4, 5] rfl ?_
  exact next p q _ _ (by show k + 0 + 0 ≤ k + 25; omega) (by show n + 0 + 0 ≤ n + 1750; omega)
set_option maxHeartbeats 4000000 in
theorem lc_undo {G : gp_} {X : ct_} {ad adM : Nat → Nat} {b L i p q k n : Nat} {xs : Nat → Int32} {μ ν μ1 ν1 : mu_T} {nl : Nat} {ret9 : Option FieldType} (C : cx_ G X code "UrnHeapLaw" room_1 ret9 8) (Sx : sx_ X b L xs) (hi : i + 4 ≤ L) (hL : L ≤ 2048) (hk : k + 25 ≤ 600000 ∧ n + 1750 ≤ 7302250) {r : Int} (hX : f_X11_undo μ = some (r, μ1)) (hM : f_X12_undo ν = some (r, ν1)) (next : ∀ p q k2 n2, k2 ≤ k + 25 → n2 ≤ n + 1750 → wy_ G X ad adM p q μ1 ν1 k2 n2 1067 [(3, .int (iI (i : Nat))), (0, .ref b), (1, .ref (ad 132)), (2, .ref (adM 0))] []) : wy_ G X ad adM p q μ ν k n 1028 [(3, .int (iI (i : Nat))), (0, .ref b), (1, .ref (ad 132)), (2, .ref (adM 0))] [] := by
  refine xx_aload_n C 1029 rfl 2 dL_law_1028 rfl rfl ?_
  refine yX_i (st := []) (As := []) C 1032 rfl rfl ca_X11_undo cv_X11_undo w_1140 rfl ⟨(Nat.le_of_ble_eq_true rfl), (Nat.le_of_ble_eq_true rfl)⟩ ⟨by show k + 0 ≤ 600000; omega, by show n + 0 ≤ 7302250; omega⟩ (Nat.le_of_ble_eq_true rfl) dL_law_1029 (c_X11_undo μ r μ1 hX) ?_ rfl
  refine xx_aload_n C 1033 rfl 3 dL_law_1032 rfl rfl ?_
  refine yM_i (st := [.int (iI r)]) (As := []) C 1036 rfl rfl ca_X12_undo cv_X12_undo w_1589 rfl ⟨(Nat.le_of_ble_eq_true rfl), (Nat.le_of_ble_eq_true rfl)⟩ ⟨by show k + 0 + 0 ≤ 600000; omega, by show n + 0 + 0 ≤ 7302250; omega⟩ (Nat.le_of_ble_eq_true rfl) dL_law_1033 (c_X12_undo ν r ν1 hM) ?_ rfl
  refine xx_icmp_eq (tgt := 1067) (t := some ()) (f := none) (r := ()) C 1039 rfl dL_law_1036 (by decide) (by unfold eq_; exact if_pos rfl) (fun _ => ?_) (fun h => nn_ h)
  exact next p q _ _ (by show k + 0 + 0 ≤ k + 25; omega) (by show n + 0 + 0 ≤ n + 1750; omega)
set_option maxHeartbeats 4000000 in
theorem lc_save {G : gp_} {X : ct_} {ad adM : Nat → Nat} {b L i p q k n : Nat} {xs : Nat → Int32} {μ ν μ1 ν1 : mu_T} {nl : Nat} {ret9 : Option FieldType} (C : cx_ G X code "UrnHeapLaw" room_1 ret9 8) (Sx : sx_ X b L xs) (hi : i + 4 ≤ L) (hL : L ≤ 2048) (hk : k + 25 ≤ 600000 ∧ n + 1750 ≤ 7302250) {r : Int} (hX : f_X11_save μ = some (r, μ1)) (hM : f_X12_save ν = some (r, ν1)) (next : ∀ p q k2 n2, k2 ≤ k + 25 → n2 ≤ n + 1750 → wy_ G X ad adM p q μ1 ν1 k2 n2 1067 [(3, .int (iI (i : Nat))), (0, .ref b), (1, .ref (ad 132)), (2, .ref (adM 0))] []) : wy_ G X ad adM p q μ ν k n 1041 [(3, .int (iI (i : Nat))), (0, .ref b), (1, .ref (ad 132)), (2, .ref (adM 0))] [] := by
  refine xx_aload_n C 1042 rfl 2 dL_law_1041 rfl rfl ?_
  refine yX_i (st := []) (As := []) C 1045 rfl rfl ca_X11_save cv_X11_save w_1149 rfl ⟨(Nat.le_of_ble_eq_true rfl), (Nat.le_of_ble_eq_true rfl)⟩ ⟨by show k + 0 ≤ 600000; omega, by show n + 0 ≤ 7302250; omega⟩ (Nat.le_of_ble_eq_true rfl) dL_law_1042 (c_X11_save μ r μ1 hX) ?_ rfl
  refine xx_aload_n C 1046 rfl 3 dL_law_1045 rfl rfl ?_
  refine yM_i (st := [.int (iI r)]) (As := []) C 1049 rfl rfl ca_X12_save cv_X12_save w_1593 rfl ⟨(Nat.le_of_ble_eq_true rfl), (Nat.le_of_ble_eq_true rfl)⟩ ⟨by show k + 0 + 0 ≤ 600000; omega, by show n + 0 + 0 ≤ 7302250; omega⟩ (Nat.le_of_ble_eq_true rfl) dL_law_1046 (c_X12_save ν r ν1 hM) ?_ rfl
  refine xx_icmp_eq (tgt := 1067) (t := some ()) (f := none) (r := ()) C 1052 rfl dL_law_1049 (by decide) (by unfold eq_; exact if_pos rfl) (fun _ => ?_) (fun h => nn_ h)
  exact next p q _ _ (by show k + 0 + 0 ≤ k + 25; omega) (by show n + 0 + 0 ≤ n + 1750; omega)
set_option maxHeartbeats 4000000 in
theorem lc_restore {G : gp_} {X : ct_} {ad adM : Nat → Nat} {b L i p q k n : Nat} {xs : Nat → Int32} {μ ν μ1 ν1 : mu_T} {nl : Nat} {ret9 : Option FieldType} (C : cx_ G X code "UrnHeapLaw" room_1 ret9 8) (Sx : sx_ X b L xs) (hi : i + 4 ≤ L) (hL : L ≤ 2048) (hk : k + 25 ≤ 600000 ∧ n + 1750 ≤ 7302250) {r : Int} (hX : f_X11_restore μ = some (r, μ1)) (hM : f_X12_restore ν = some (r, ν1)) (next : ∀ p q k2 n2, k2 ≤ k + 25 → n2 ≤ n + 1750 → wy_ G X ad adM p q μ1 ν1 k2 n2 1067 [(3, .int (iI (i : Nat))), (0, .ref b), (1, .ref (ad 132)), (2, .ref (adM 0))] []) : wy_ G X ad adM p q μ ν k n 1054 [(3, .int (iI (i : Nat))), (0, .ref b), (1, .ref (ad 132)), (2, .ref (adM 0))] [] := by
  refine xx_aload_n C 1055 rfl 2 dL_law_1054 rfl rfl ?_
  refine yX_i (st := []) (As := []) C 1058 rfl rfl ca_X11_restore cv_X11_restore w_1158 rfl ⟨(Nat.le_of_ble_eq_true rfl), (Nat.le_of_ble_eq_true rfl)⟩ ⟨by show k + 0 ≤ 600000; omega, by show n + 0 ≤ 7302250; omega⟩ (Nat.le_of_ble_eq_true rfl) dL_law_1055 (c_X11_restore μ r μ1 hX) ?_ rfl
  refine xx_aload_n C 1059 rfl 3 dL_law_1058 rfl rfl ?_
  refine yM_i (st := [.int (iI r)]) (As := []) C 1062 rfl rfl ca_X12_restore cv_X12_restore w_1597 rfl ⟨(Nat.le_of_ble_eq_true rfl), (Nat.le_of_ble_eq_true rfl)⟩ ⟨by show k + 0 + 0 ≤ 600000; omega, by show n + 0 + 0 ≤ 7302250; omega⟩ (Nat.le_of_ble_eq_true rfl) dL_law_1059 (c_X12_restore ν r ν1 hM) ?_ rfl
  refine xx_icmp_eq (tgt := 1067) (t := some ()) (f := none) (r := ()) C 1065 rfl dL_law_1062 (by decide) (by unfold eq_; exact if_pos rfl) (fun _ => ?_) (fun h => nn_ h)
  exact next p q _ _ (by show k + 0 + 0 ≤ k + 25; omega) (by show n + 0 + 0 ≤ n + 1750; omega)
