/-! what one drawn call does (written by wip/gen40/lawgen.py) -/
theorem w_403 : Cond.methodLink "UrnHeapLaw" 67 yX11_urn ∈ gT_ := gm_ 403 (by decide +kernel)
theorem w_453 : Cond.methodLink "UrnHeapLaw" 70 yX11_tie ∈ gT_ := gm_ 453 (by decide +kernel)
theorem w_492 : Cond.methodLink "UrnHeapLaw" 74 yX11_untie ∈ gT_ := gm_ 492 (by decide +kernel)
theorem w_500 : Cond.methodLink "UrnHeapLaw" 78 yX11_weak ∈ gT_ := gm_ 500 (by decide +kernel)
theorem w_508 : Cond.methodLink "UrnHeapLaw" 81 yX11_unweak ∈ gT_ := gm_ 508 (by decide +kernel)
theorem w_516 : Cond.methodLink "UrnHeapLaw" 84 yX11_name ∈ gT_ := gm_ 516 (by decide +kernel)
theorem w_527 : Cond.methodLink "UrnHeapLaw" 87 yX11_drop ∈ gT_ := gm_ 527 (by decide +kernel)
theorem w_535 : Cond.methodLink "UrnHeapLaw" 90 yX11_begin ∈ gT_ := gm_ 535 (by decide +kernel)
theorem w_553 : Cond.methodLink "UrnHeapLaw" 93 yX11_step ∈ gT_ := gm_ 553 (by decide +kernel)
theorem w_606 : Cond.methodLink "UrnHeapLaw" 99 yX11_rite ∈ gT_ := gm_ 606 (by decide +kernel)
theorem w_614 : Cond.classLink "UrnHeapLaw" 102 "java/lang/StringBuilder" ∈ gT_ := gm_ 614 (by decide +kernel)
theorem w_615 : Cond.methodLink "UrnHeapLaw" 104 yJ4_init_da8c8 ∈ gT_ := gm_ 615 (by decide +kernel)
theorem w_617 : Cond.methodLink "UrnHeapLaw" 107 yJ4_append_15ec4 ∈ gT_ := gm_ 617 (by decide +kernel)
theorem w_733 : Cond.methodLink "UrnHeapLaw" 110 yJ4_append_bf812 ∈ gT_ := gm_ 733 (by decide +kernel)
theorem w_763 : Cond.methodLink "UrnHeapLaw" 123 yJ4_toString_0e30d ∈ gT_ := gm_ 763 (by decide +kernel)
theorem w_816 : Cond.methodLink "UrnHeapLaw" 127 yL_runs ∈ gT_ := gm_ 816 (by decide +kernel)
theorem w_393 : Cond.methodLink "UrnHeapLaw" 48 yL_pick ∈ gT_ := gm_ 393 (by decide +kernel)
theorem w_402 : Cond.code yL_does cL_does 7 (some .int) ∈ gT_ := gm_ 402 (by decide +kernel)
theorem w_401 : Cond.static yL_does ∈ gT_ := gm_ 401 (by decide +kernel)
theorem w_406 : Cond.code yX11_urn cX11_urn 2 (some .int) ∈ gT_ := gm_ 406 (by decide +kernel)
theorem w_404 : Cond.instanceMethod yX11_urn ∈ gT_ := gm_ 404 (by decide +kernel)
theorem w_405 : Cond.selects "UrnHeap" yX11_urn yX11_urn ∈ gT_ := gm_ 405 (by decide +kernel)
theorem w_456 : Cond.code yX11_tie cX11_tie 4 (some .int) ∈ gT_ := gm_ 456 (by decide +kernel)
theorem w_454 : Cond.instanceMethod yX11_tie ∈ gT_ := gm_ 454 (by decide +kernel)
theorem w_455 : Cond.selects "UrnHeap" yX11_tie yX11_tie ∈ gT_ := gm_ 455 (by decide +kernel)
theorem w_495 : Cond.code yX11_untie cX11_untie 3 (some .int) ∈ gT_ := gm_ 495 (by decide +kernel)
theorem w_493 : Cond.instanceMethod yX11_untie ∈ gT_ := gm_ 493 (by decide +kernel)
theorem w_494 : Cond.selects "UrnHeap" yX11_untie yX11_untie ∈ gT_ := gm_ 494 (by decide +kernel)
theorem w_503 : Cond.code yX11_weak cX11_weak 3 (some .int) ∈ gT_ := gm_ 503 (by decide +kernel)
theorem w_501 : Cond.instanceMethod yX11_weak ∈ gT_ := gm_ 501 (by decide +kernel)
theorem w_502 : Cond.selects "UrnHeap" yX11_weak yX11_weak ∈ gT_ := gm_ 502 (by decide +kernel)
theorem w_511 : Cond.code yX11_unweak cX11_unweak 2 (some .int) ∈ gT_ := gm_ 511 (by decide +kernel)
theorem w_509 : Cond.instanceMethod yX11_unweak ∈ gT_ := gm_ 509 (by decide +kernel)
theorem w_510 : Cond.selects "UrnHeap" yX11_unweak yX11_unweak ∈ gT_ := gm_ 510 (by decide +kernel)
theorem w_519 : Cond.code yX11_name cX11_name 3 (some .int) ∈ gT_ := gm_ 519 (by decide +kernel)
theorem w_517 : Cond.instanceMethod yX11_name ∈ gT_ := gm_ 517 (by decide +kernel)
theorem w_518 : Cond.selects "UrnHeap" yX11_name yX11_name ∈ gT_ := gm_ 518 (by decide +kernel)
theorem w_530 : Cond.code yX11_drop cX11_drop 2 (some .int) ∈ gT_ := gm_ 530 (by decide +kernel)
theorem w_528 : Cond.instanceMethod yX11_drop ∈ gT_ := gm_ 528 (by decide +kernel)
theorem w_529 : Cond.selects "UrnHeap" yX11_drop yX11_drop ∈ gT_ := gm_ 529 (by decide +kernel)
theorem w_538 : Cond.code yX11_begin cX11_begin 1 (some .int) ∈ gT_ := gm_ 538 (by decide +kernel)
theorem w_536 : Cond.instanceMethod yX11_begin ∈ gT_ := gm_ 536 (by decide +kernel)
theorem w_537 : Cond.selects "UrnHeap" yX11_begin yX11_begin ∈ gT_ := gm_ 537 (by decide +kernel)
theorem w_556 : Cond.code yX11_step cX11_step 2 (some .int) ∈ gT_ := gm_ 556 (by decide +kernel)
theorem w_554 : Cond.instanceMethod yX11_step ∈ gT_ := gm_ 554 (by decide +kernel)
theorem w_555 : Cond.selects "UrnHeap" yX11_step yX11_step ∈ gT_ := gm_ 555 (by decide +kernel)
theorem w_609 : Cond.code yX11_rite cX11_rite 1 (some .int) ∈ gT_ := gm_ 609 (by decide +kernel)
theorem w_607 : Cond.instanceMethod yX11_rite ∈ gT_ := gm_ 607 (by decide +kernel)
theorem w_608 : Cond.selects "UrnHeap" yX11_rite yX11_rite ∈ gT_ := gm_ 608 (by decide +kernel)
theorem w_620 : Cond.code yJ4_append_15ec4 cJ4_append_15ec4 2 (some (Jvm.ClassFile.FieldType.object "java/lang/StringBuilder")) ∈ gT_ := gm_ 620 (by decide +kernel)
theorem w_618 : Cond.instanceMethod yJ4_append_15ec4 ∈ gT_ := gm_ 618 (by decide +kernel)
theorem w_619 : Cond.selects "java/lang/StringBuilder" yJ4_append_15ec4 yJ4_append_15ec4 ∈ gT_ := gm_ 619 (by decide +kernel)
theorem w_736 : Cond.code yJ4_append_bf812 cJ4_append_bf812 2 (some (Jvm.ClassFile.FieldType.object "java/lang/StringBuilder")) ∈ gT_ := gm_ 736 (by decide +kernel)
theorem w_734 : Cond.instanceMethod yJ4_append_bf812 ∈ gT_ := gm_ 734 (by decide +kernel)
theorem w_735 : Cond.selects "java/lang/StringBuilder" yJ4_append_bf812 yJ4_append_bf812 ∈ gT_ := gm_ 735 (by decide +kernel)
theorem ca_L_does : ca_ yL_does cL_does 7 (some .int) 4 := ⟨w_24, w_402, by decide, by decide, by decide +kernel⟩
theorem cs_L_does : Cond.static yL_does ∈ gT_ := w_401
theorem ca_X11_urn : ca_ yX11_urn cX11_urn 2 (some .int) 1 := ⟨w_25, w_406, by decide, by decide, by decide +kernel⟩
theorem cv_X11_urn : cv_ yX11_urn := ⟨w_404, w_405⟩
theorem ca_X11_tie : ca_ yX11_tie cX11_tie 4 (some .int) 3 := ⟨w_25, w_456, by decide, by decide, by decide +kernel⟩
theorem cv_X11_tie : cv_ yX11_tie := ⟨w_454, w_455⟩
theorem ca_X11_untie : ca_ yX11_untie cX11_untie 3 (some .int) 2 := ⟨w_25, w_495, by decide, by decide, by decide +kernel⟩
theorem cv_X11_untie : cv_ yX11_untie := ⟨w_493, w_494⟩
theorem ca_X11_weak : ca_ yX11_weak cX11_weak 3 (some .int) 2 := ⟨w_25, w_503, by decide, by decide, by decide +kernel⟩
theorem cv_X11_weak : cv_ yX11_weak := ⟨w_501, w_502⟩
theorem ca_X11_unweak : ca_ yX11_unweak cX11_unweak 2 (some .int) 1 := ⟨w_25, w_511, by decide, by decide, by decide +kernel⟩
theorem cv_X11_unweak : cv_ yX11_unweak := ⟨w_509, w_510⟩
theorem ca_X11_name : ca_ yX11_name cX11_name 3 (some .int) 2 := ⟨w_25, w_519, by decide, by decide, by decide +kernel⟩
theorem cv_X11_name : cv_ yX11_name := ⟨w_517, w_518⟩
theorem ca_X11_drop : ca_ yX11_drop cX11_drop 2 (some .int) 1 := ⟨w_25, w_530, by decide, by decide, by decide +kernel⟩
theorem cv_X11_drop : cv_ yX11_drop := ⟨w_528, w_529⟩
theorem ca_X11_begin : ca_ yX11_begin cX11_begin 1 (some .int) 0 := ⟨w_25, w_538, by decide, by decide, by decide +kernel⟩
theorem cv_X11_begin : cv_ yX11_begin := ⟨w_536, w_537⟩
theorem ca_X11_step : ca_ yX11_step cX11_step 2 (some .int) 1 := ⟨w_25, w_556, by decide, by decide, by decide +kernel⟩
theorem cv_X11_step : cv_ yX11_step := ⟨w_554, w_555⟩
theorem ca_X11_rite : ca_ yX11_rite cX11_rite 1 (some .int) 0 := ⟨w_25, w_609, by decide, by decide, by decide +kernel⟩
theorem cv_X11_rite : cv_ yX11_rite := ⟨w_607, w_608⟩
theorem ca_J4_append_15ec4 : ca_ yJ4_append_15ec4 cJ4_append_15ec4 2 (some (Jvm.ClassFile.FieldType.object "java/lang/StringBuilder")) 1 := ⟨w_36, w_620, by decide, by decide, by decide +kernel⟩
theorem cv_J4_append_15ec4 : cv_ yJ4_append_15ec4 := ⟨w_618, w_619⟩
theorem ca_J4_append_bf812 : ca_ yJ4_append_bf812 cJ4_append_bf812 2 (some (Jvm.ClassFile.FieldType.object "java/lang/StringBuilder")) 1 := ⟨w_36, w_736, by decide, by decide, by decide +kernel⟩
theorem cv_J4_append_bf812 : cv_ yJ4_append_bf812 := ⟨w_734, w_735⟩
theorem dL_does_0 : decode cL_does 0 = .ok (.aload_n 0, 1) := by decide +kernel
theorem dL_does_1 : decode cL_does 1 = .ok (.iload_n 1, 1) := by decide +kernel
theorem dL_does_2 : decode cL_does 2 = .ok (.iconst 1, 1) := by decide +kernel
theorem dL_does_3 : decode cL_does 3 = .ok (.iadd, 1) := by decide +kernel
theorem dL_does_4 : decode cL_does 4 = .ok (.sipush 1000, 3) := by decide +kernel
theorem dL_does_7 : decode cL_does 7 = .ok (.invokestatic 48, 3) := by decide +kernel
theorem dL_does_10 : decode cL_does 10 = .ok (.istore 4, 2) := by decide +kernel
theorem dL_does_12 : decode cL_does 12 = .ok (.aload_n 0, 1) := by decide +kernel
theorem dL_does_13 : decode cL_does 13 = .ok (.iload_n 1, 1) := by decide +kernel
theorem dL_does_14 : decode cL_does 14 = .ok (.iconst 2, 1) := by decide +kernel
theorem dL_does_15 : decode cL_does 15 = .ok (.iadd, 1) := by decide +kernel
theorem dL_does_16 : decode cL_does 16 = .ok (.bipush 9, 2) := by decide +kernel
theorem dL_does_18 : decode cL_does 18 = .ok (.invokestatic 48, 3) := by decide +kernel
theorem dL_does_21 : decode cL_does 21 = .ok (.istore 5, 2) := by decide +kernel
theorem dL_does_23 : decode cL_does 23 = .ok (.aload_n 0, 1) := by decide +kernel
theorem dL_does_24 : decode cL_does 24 = .ok (.iload_n 1, 1) := by decide +kernel
theorem dL_does_25 : decode cL_does 25 = .ok (.iconst 3, 1) := by decide +kernel
theorem dL_does_26 : decode cL_does 26 = .ok (.iadd, 1) := by decide +kernel
theorem dL_does_27 : decode cL_does 27 = .ok (.bipush 9, 2) := by decide +kernel
theorem dL_does_29 : decode cL_does 29 = .ok (.invokestatic 48, 3) := by decide +kernel
theorem dL_does_32 : decode cL_does 32 = .ok (.istore 6, 2) := by decide +kernel
theorem dL_does_34 : decode cL_does 34 = .ok (.iload_n 2, 1) := by decide +kernel
theorem dL_does_35 : decode cL_does 35 = .ok (.tableswitch 205 0 21 #[101, 101, 101, 101, 118, 118, 118, 118, 118, 131, 142, 151, 158, 158, 170, 180, 185, 185, 185, 195, 200, 200], 101) := by decide +kernel
theorem dL_does_136 : decode cL_does 136 = .ok (.aload_n 3, 1) := by decide +kernel
theorem dL_does_137 : decode cL_does 137 = .ok (.iload 4, 2) := by decide +kernel
theorem dL_does_139 : decode cL_does 139 = .ok (.iconst 4, 1) := by decide +kernel
theorem dL_does_140 : decode cL_does 140 = .ok (.irem, 1) := by decide +kernel
theorem dL_does_141 : decode cL_does 141 = .ok (.ifCond .ne 7, 3) := by decide +kernel
theorem dL_does_144 : decode cL_does 144 = .ok (.iconst 1, 1) := by decide +kernel
theorem dL_does_145 : decode cL_does 145 = .ok (.goto 4, 3) := by decide +kernel
theorem dL_does_148 : decode cL_does 148 = .ok (.iconst 0, 1) := by decide +kernel
theorem dL_does_149 : decode cL_does 149 = .ok (.invokevirtual 67, 3) := by decide +kernel
theorem dL_does_152 : decode cL_does 152 = .ok (.ireturn, 1) := by decide +kernel
theorem dL_does_153 : decode cL_does 153 = .ok (.aload_n 3, 1) := by decide +kernel
theorem dL_does_154 : decode cL_does 154 = .ok (.iload 5, 2) := by decide +kernel
theorem dL_does_156 : decode cL_does 156 = .ok (.iload 4, 2) := by decide +kernel
theorem dL_does_158 : decode cL_does 158 = .ok (.iconst 5, 1) := by decide +kernel
theorem dL_does_159 : decode cL_does 159 = .ok (.irem, 1) := by decide +kernel
theorem dL_does_160 : decode cL_does 160 = .ok (.iload 6, 2) := by decide +kernel
theorem dL_does_162 : decode cL_does 162 = .ok (.invokevirtual 70, 3) := by decide +kernel
theorem dL_does_165 : decode cL_does 165 = .ok (.ireturn, 1) := by decide +kernel
theorem dL_does_166 : decode cL_does 166 = .ok (.aload_n 3, 1) := by decide +kernel
theorem dL_does_167 : decode cL_does 167 = .ok (.iload 5, 2) := by decide +kernel
theorem dL_does_169 : decode cL_does 169 = .ok (.iload 4, 2) := by decide +kernel
theorem dL_does_171 : decode cL_does 171 = .ok (.iconst 4, 1) := by decide +kernel
theorem dL_does_172 : decode cL_does 172 = .ok (.irem, 1) := by decide +kernel
theorem dL_does_173 : decode cL_does 173 = .ok (.invokevirtual 74, 3) := by decide +kernel
theorem dL_does_176 : decode cL_does 176 = .ok (.ireturn, 1) := by decide +kernel
theorem dL_does_177 : decode cL_does 177 = .ok (.aload_n 3, 1) := by decide +kernel
theorem dL_does_178 : decode cL_does 178 = .ok (.iload 5, 2) := by decide +kernel
theorem dL_does_180 : decode cL_does 180 = .ok (.iload 6, 2) := by decide +kernel
theorem dL_does_182 : decode cL_does 182 = .ok (.invokevirtual 78, 3) := by decide +kernel
theorem dL_does_185 : decode cL_does 185 = .ok (.ireturn, 1) := by decide +kernel
theorem dL_does_186 : decode cL_does 186 = .ok (.aload_n 3, 1) := by decide +kernel
theorem dL_does_187 : decode cL_does 187 = .ok (.iload 5, 2) := by decide +kernel
theorem dL_does_189 : decode cL_does 189 = .ok (.invokevirtual 81, 3) := by decide +kernel
theorem dL_does_192 : decode cL_does 192 = .ok (.ireturn, 1) := by decide +kernel
theorem dL_does_193 : decode cL_does 193 = .ok (.aload_n 3, 1) := by decide +kernel
theorem dL_does_194 : decode cL_does 194 = .ok (.iload 4, 2) := by decide +kernel
theorem dL_does_196 : decode cL_does 196 = .ok (.bipush 7, 2) := by decide +kernel
theorem dL_does_198 : decode cL_does 198 = .ok (.irem, 1) := by decide +kernel
theorem dL_does_199 : decode cL_does 199 = .ok (.iload 5, 2) := by decide +kernel
theorem dL_does_201 : decode cL_does 201 = .ok (.invokevirtual 84, 3) := by decide +kernel
theorem dL_does_204 : decode cL_does 204 = .ok (.ireturn, 1) := by decide +kernel
theorem dL_does_205 : decode cL_does 205 = .ok (.aload_n 3, 1) := by decide +kernel
theorem dL_does_206 : decode cL_does 206 = .ok (.iload 4, 2) := by decide +kernel
theorem dL_does_208 : decode cL_does 208 = .ok (.bipush 7, 2) := by decide +kernel
theorem dL_does_210 : decode cL_does 210 = .ok (.irem, 1) := by decide +kernel
theorem dL_does_211 : decode cL_does 211 = .ok (.invokevirtual 87, 3) := by decide +kernel
theorem dL_does_214 : decode cL_does 214 = .ok (.ireturn, 1) := by decide +kernel
theorem dL_does_215 : decode cL_does 215 = .ok (.aload_n 3, 1) := by decide +kernel
theorem dL_does_216 : decode cL_does 216 = .ok (.invokevirtual 90, 3) := by decide +kernel
theorem dL_does_219 : decode cL_does 219 = .ok (.ireturn, 1) := by decide +kernel
theorem dL_does_220 : decode cL_does 220 = .ok (.aload_n 3, 1) := by decide +kernel
theorem dL_does_221 : decode cL_does 221 = .ok (.iload 4, 2) := by decide +kernel
theorem dL_does_223 : decode cL_does 223 = .ok (.bipush 8, 2) := by decide +kernel
theorem dL_does_225 : decode cL_does 225 = .ok (.irem, 1) := by decide +kernel
theorem dL_does_226 : decode cL_does 226 = .ok (.invokevirtual 93, 3) := by decide +kernel
theorem dL_does_229 : decode cL_does 229 = .ok (.ireturn, 1) := by decide +kernel
theorem dL_does_230 : decode cL_does 230 = .ok (.aload_n 3, 1) := by decide +kernel
theorem dL_does_231 : decode cL_does 231 = .ok (.invokevirtual 96, 3) := by decide +kernel
theorem dL_does_234 : decode cL_does 234 = .ok (.ireturn, 1) := by decide +kernel
theorem dL_does_235 : decode cL_does 235 = .ok (.aload_n 3, 1) := by decide +kernel
theorem dL_does_236 : decode cL_does 236 = .ok (.invokevirtual 99, 3) := by decide +kernel
theorem dL_does_239 : decode cL_does 239 = .ok (.ireturn, 1) := by decide +kernel
theorem dL_does_240 : decode cL_does 240 = .ok (.aload_n 3, 1) := by decide +kernel
theorem dL_does_241 : decode cL_does 241 = .ok (.new 102, 3) := by decide +kernel
theorem dL_does_244 : decode cL_does 244 = .ok (.dup, 1) := by decide +kernel
theorem dL_does_245 : decode cL_does 245 = .ok (.invokespecial 104, 3) := by decide +kernel
theorem dL_does_248 : decode cL_does 248 = .ok (.ldc 105, 2) := by decide +kernel
theorem dL_does_250 : decode cL_does 250 = .ok (.invokevirtual 107, 3) := by decide +kernel
theorem dL_does_253 : decode cL_does 253 = .ok (.iload 5, 2) := by decide +kernel
theorem dL_does_255 : decode cL_does 255 = .ok (.invokevirtual 110, 3) := by decide +kernel
theorem dL_does_258 : decode cL_does 258 = .ok (.ldc 113, 2) := by decide +kernel
theorem dL_does_260 : decode cL_does 260 = .ok (.invokevirtual 107, 3) := by decide +kernel
theorem dL_does_263 : decode cL_does 263 = .ok (.iload 4, 2) := by decide +kernel
theorem dL_does_265 : decode cL_does 265 = .ok (.iconst 4, 1) := by decide +kernel
theorem dL_does_266 : decode cL_does 266 = .ok (.irem, 1) := by decide +kernel
theorem dL_does_267 : decode cL_does 267 = .ok (.invokevirtual 110, 3) := by decide +kernel
theorem dL_does_270 : decode cL_does 270 = .ok (.ldc 115, 2) := by decide +kernel
theorem dL_does_272 : decode cL_does 272 = .ok (.invokevirtual 107, 3) := by decide +kernel
theorem dL_does_275 : decode cL_does 275 = .ok (.iload 6, 2) := by decide +kernel
theorem dL_does_277 : decode cL_does 277 = .ok (.invokevirtual 110, 3) := by decide +kernel
theorem dL_does_280 : decode cL_does 280 = .ok (.iload 4, 2) := by decide +kernel
theorem dL_does_282 : decode cL_does 282 = .ok (.iconst 3, 1) := by decide +kernel
theorem dL_does_283 : decode cL_does 283 = .ok (.irem, 1) := by decide +kernel
theorem dL_does_284 : decode cL_does 284 = .ok (.ifCond .ne 8, 3) := by decide +kernel
theorem dL_does_287 : decode cL_does 287 = .ok (.ldc 117, 2) := by decide +kernel
theorem dL_does_289 : decode cL_does 289 = .ok (.goto 18, 3) := by decide +kernel
theorem dL_does_292 : decode cL_does 292 = .ok (.iload 4, 2) := by decide +kernel
theorem dL_does_294 : decode cL_does 294 = .ok (.iconst 3, 1) := by decide +kernel
theorem dL_does_295 : decode cL_does 295 = .ok (.irem, 1) := by decide +kernel
theorem dL_does_296 : decode cL_does 296 = .ok (.iconst 1, 1) := by decide +kernel
theorem dL_does_297 : decode cL_does 297 = .ok (.if_icmp .ne 8, 3) := by decide +kernel
theorem dL_does_300 : decode cL_does 300 = .ok (.ldc 119, 2) := by decide +kernel
theorem dL_does_302 : decode cL_does 302 = .ok (.goto 5, 3) := by decide +kernel
theorem dL_does_305 : decode cL_does 305 = .ok (.ldc 121, 2) := by decide +kernel
theorem dL_does_307 : decode cL_does 307 = .ok (.invokevirtual 107, 3) := by decide +kernel
theorem dL_does_310 : decode cL_does 310 = .ok (.invokevirtual 123, 3) := by decide +kernel
theorem dL_does_313 : decode cL_does 313 = .ok (.invokestatic 127, 3) := by decide +kernel
theorem dL_does_316 : decode cL_does 316 = .ok (.ireturn, 1) := by decide +kernel
/-- the builder of an order, at its beginning; the string that it becomes -/
def mS0_ : mu_T := fun q => if q = 0 then (fun _ => 0) else br_ 16
def tT_ (σ : mu_T) (n : Nat) : mu_T := fun q => if q = 0 then (fun j => if j = -1 then (n : Int) else σ 1 j) else (fun _ => 0)
def f_L_text (v a b : Int) : Option mu_T := bd_ (f_J4_append_15ec4_o0 mS0_ 10) (fun m1 => bd_ (f_J4_append_bf812_o0 m1 a) (fun m2 => bd_ (f_J4_append_15ec4_o0 m2 11) (fun m3 => rm_ v 4 (fun w => bd_ (f_J4_append_bf812_o0 m3 w) (fun m4 => bd_ (f_J4_append_15ec4_o0 m4 12) (fun m5 => bd_ (f_J4_append_bf812_o0 m5 b) (fun m6 => rm_ v 3 (fun u => eq_ u 0 (f_J4_append_15ec4_o0 m6 13) (rm_ v 3 (fun u2 => eq_ u2 1 (f_J4_append_15ec4_o0 m6 14) (f_J4_append_15ec4_o0 m6 15)))))))))))
theorem tT_e {G : gp_} {x y n : Nat} {σ : mu_T} : wl_ 2 (fun k => if k = 0 then x else y) (ceT G (fun k => if k = 0 then x else y)) (tT_ σ n) = [(x, .inl (G.1.1 101, n, .inl (fun j => iI (σ 1 (j : Nat))))), (y, .inr (0, [.ref x, .int (iI 0), .int (iI 0), .int (iI 0)]))] := by
  have e1 : (fun j : Nat => iI (tT_ σ n 0 (j : Int))) = fun j : Nat => iI (σ 1 (j : Int)) := by
    funext j
    show iI (if (j : Int) = -1 then (n : Int) else σ 1 (j : Int)) = _
    rw [if_neg (by omega)]
  have e2 : (tT_ σ n 0 (-1)).toNat = n := by
    show (if (-1 : Int) = -1 then (n : Int) else σ 1 (-1)).toNat = n
    rw [if_pos rfl]
    omega
  show [(x, (.inl (G.1.1 101, (tT_ σ n 0 (-1)).toNat, .inl (fun j : Nat => iI (tT_ σ n 0 (j : Int)))) : va_E)), _] = _
  rw [e1, e2]
  rfl
theorem yP_d {D : va_G} {cl : List vw_C} {A1 S T1 : va_W} {H : Heap} (h : va_P D cl (A1 ++ (S ++ T1)) H) : va_P D cl (A1 ++ T1) H := (yP_l h).app (yP_r (yP_r h))
theorem yD_d {A : Nat → Prop} {A1 S T1 : va_W} (h : va_D A (A1 ++ (S ++ T1))) : va_D A (A1 ++ T1) := va_D.app (yD_l h) (yD_r (yD_r h)) (fun i j x y hx hy hxy => by
  have h1 := h.1 _ _ _ _ (yapp_l hx) (yapp_r (yapp_r hy)) hxy
  have h2 := (List.getElem?_eq_some_iff.mp hx).1
  omega)
theorem wv_m9 {G : gp_} {X : ct_} {w1 w2 : va_W} {k n pc : Nat} {lv : List (Nat × Value)} {st : List Value} (hP : ∀ H, va_P G.1 vwCl w1 H → va_P G.1 vwCl w2 H) (hD : ∀ A, va_D A w1 → va_D A w2) (h : wv_ G X w2 k n pc lv st) : wv_ G X w1 k n pc lv st := by
  obtain ⟨p, l, e9, R, s, m, args, below, meth, c, Q, A, nL⟩ := X
  intro H locs ls hP0 hD0 hS hl
  rw [wl_L] at hP0 hD0
  exact h H locs ls (by rw [wl_L]; exact hP H hP0) (by rw [wl_L]; exact hD A hD0) hS hl
set_option maxHeartbeats 4000000 in
set_option maxRecDepth 100000 in
theorem dz_136 {G : gp_} {X : ct_} {ad : Nat → Nat} {p q sb : Nat} {v a b k9 kd r : Int} {μ μr : mu_T} (C : cx_ G X cL_does "UrnHeapLaw" ({ frames := 11, cells := 20, slots := 1160, locals := 300 } : Room) (some .int) 7) (E : eg_ X ({ frames := 11, cells := 20, slots := 1160, locals := 300 } : Room) (fun A => qwi_ G A r (fun (u : Nat × Nat) => wl_ 151 (am_ ad u.1 u.2) (ceX G (am_ ad u.1 u.2)) μr))) (h : rm_ v 4 (fun w => eq_ w 0 (f_X11_urn μ 1) (f_X11_urn μ 0)) = some (r, μr)) : wv_ G X (wl_ 151 (am_ ad p q) (ceX G (am_ ad p q)) μ) 0 0 136 [(6, .int (iI b)), (5, .int (iI a)), (4, .int (iI v)), (0, .ref sb), (1, .int (iI k9)), (2, .int (iI kd)), (3, .ref (ad 132))] [] := by
  refine xx_aload_n C 137 rfl 6 dL_does_136 rfl rfl ?_
  refine xx_iload C 139 rfl 2 dL_does_137 rfl ?_
  refine xx_iconst C 140 rfl dL_does_139 ?_
  refine xx_irem C 141 rfl dL_does_140 h (fun w h => ?_)
  refine xx_if_ne (tgt := 148) C 144 rfl dL_does_141 (by decide) h (fun h => ?_) (fun h => ?_)
  · refine xx_iconst C 149 rfl dL_does_148 ?_
    refine xw_cVi (As := [.int (iI 0)]) (st := []) C 152 rfl sw_a (i0 := 132) (a := ad 132) ((wl_get (by decide)).trans (by rw [ceX_132]; rfl)) rfl rfl ca_X11_urn cv_X11_urn w_403 rfl ⟨(by exact Nat.le_of_ble_eq_true rfl), (by exact Nat.le_of_ble_eq_true rfl)⟩ ⟨(by exact Nat.le_of_ble_eq_true rfl), (by exact Nat.le_of_ble_eq_true rfl)⟩ (by exact Nat.le_of_ble_eq_true rfl) dL_does_149 (mw_i (c_X11_urn (G := G) (ad := am_ ad p q) μ 0 r μr h)) (fun _ => ?_) rfl
    exact xw_reti C E rfl (p, q) rfl ⟨(by exact Nat.le_of_ble_eq_true rfl), (by exact Nat.le_of_ble_eq_true rfl)⟩ dL_does_152
  · refine xx_iconst C 145 rfl dL_does_144 ?_
    refine xx_goto C 149 dL_does_145 (by decide) ?_
    refine xw_cVi (As := [.int (iI 1)]) (st := []) C 152 rfl sw_a (i0 := 132) (a := ad 132) ((wl_get (by decide)).trans (by rw [ceX_132]; rfl)) rfl rfl ca_X11_urn cv_X11_urn w_403 rfl ⟨(by exact Nat.le_of_ble_eq_true rfl), (by exact Nat.le_of_ble_eq_true rfl)⟩ ⟨(by exact Nat.le_of_ble_eq_true rfl), (by exact Nat.le_of_ble_eq_true rfl)⟩ (by exact Nat.le_of_ble_eq_true rfl) dL_does_149 (mw_i (c_X11_urn (G := G) (ad := am_ ad p q) μ 1 r μr h)) (fun _ => ?_) rfl
    exact xw_reti C E rfl (p, q) rfl ⟨(by exact Nat.le_of_ble_eq_true rfl), (by exact Nat.le_of_ble_eq_true rfl)⟩ dL_does_152
set_option maxHeartbeats 4000000 in
set_option maxRecDepth 100000 in
theorem dz_153 {G : gp_} {X : ct_} {ad : Nat → Nat} {p q sb : Nat} {v a b k9 kd r : Int} {μ μr : mu_T} (C : cx_ G X cL_does "UrnHeapLaw" ({ frames := 11, cells := 20, slots := 1160, locals := 300 } : Room) (some .int) 7) (E : eg_ X ({ frames := 11, cells := 20, slots := 1160, locals := 300 } : Room) (fun A => qwi_ G A r (fun (u : Nat × Nat) => wl_ 151 (am_ ad u.1 u.2) (ceX G (am_ ad u.1 u.2)) μr))) (h : rm_ v 5 (fun w => f_X11_tie μ a w b) = some (r, μr)) : wv_ G X (wl_ 151 (am_ ad p q) (ceX G (am_ ad p q)) μ) 0 0 153 [(6, .int (iI b)), (5, .int (iI a)), (4, .int (iI v)), (0, .ref sb), (1, .int (iI k9)), (2, .int (iI kd)), (3, .ref (ad 132))] [] := by
  refine xx_aload_n C 154 rfl 6 dL_does_153 rfl rfl ?_
  refine xx_iload C 156 rfl 1 dL_does_154 rfl ?_
  refine xx_iload C 158 rfl 2 dL_does_156 rfl ?_
  refine xx_iconst C 159 rfl dL_does_158 ?_
  refine xx_irem C 160 rfl dL_does_159 h (fun w h => ?_)
  refine xx_iload C 162 rfl 0 dL_does_160 rfl ?_
  refine xw_cVi (As := [.int (iI a), .int (iI w), .int (iI b)]) (st := []) C 165 rfl sw_a (i0 := 132) (a := ad 132) ((wl_get (by decide)).trans (by rw [ceX_132]; rfl)) rfl rfl ca_X11_tie cv_X11_tie w_453 rfl ⟨(by exact Nat.le_of_ble_eq_true rfl), (by exact Nat.le_of_ble_eq_true rfl)⟩ ⟨(by exact Nat.le_of_ble_eq_true rfl), (by exact Nat.le_of_ble_eq_true rfl)⟩ (by exact Nat.le_of_ble_eq_true rfl) dL_does_162 (mw_i (c_X11_tie (G := G) (ad := am_ ad p q) μ a w b r μr h)) (fun _ => ?_) rfl
  exact xw_reti C E rfl (p, q) rfl ⟨(by exact Nat.le_of_ble_eq_true rfl), (by exact Nat.le_of_ble_eq_true rfl)⟩ dL_does_165
set_option maxHeartbeats 4000000 in
set_option maxRecDepth 100000 in
theorem dz_166 {G : gp_} {X : ct_} {ad : Nat → Nat} {p q sb : Nat} {v a b k9 kd r : Int} {μ μr : mu_T} (C : cx_ G X cL_does "UrnHeapLaw" ({ frames := 11, cells := 20, slots := 1160, locals := 300 } : Room) (some .int) 7) (E : eg_ X ({ frames := 11, cells := 20, slots := 1160, locals := 300 } : Room) (fun A => qwi_ G A r (fun (u : Nat × Nat) => wl_ 151 (am_ ad u.1 u.2) (ceX G (am_ ad u.1 u.2)) μr))) (h : rm_ v 4 (fun w => f_X11_untie μ a w) = some (r, μr)) : wv_ G X (wl_ 151 (am_ ad p q) (ceX G (am_ ad p q)) μ) 0 0 166 [(6, .int (iI b)), (5, .int (iI a)), (4, .int (iI v)), (0, .ref sb), (1, .int (iI k9)), (2, .int (iI kd)), (3, .ref (ad 132))] [] := by
  refine xx_aload_n C 167 rfl 6 dL_does_166 rfl rfl ?_
  refine xx_iload C 169 rfl 1 dL_does_167 rfl ?_
  refine xx_iload C 171 rfl 2 dL_does_169 rfl ?_
  refine xx_iconst C 172 rfl dL_does_171 ?_
  refine xx_irem C 173 rfl dL_does_172 h (fun w h => ?_)
  refine xw_cVi (As := [.int (iI a), .int (iI w)]) (st := []) C 176 rfl sw_a (i0 := 132) (a := ad 132) ((wl_get (by decide)).trans (by rw [ceX_132]; rfl)) rfl rfl ca_X11_untie cv_X11_untie w_492 rfl ⟨(by exact Nat.le_of_ble_eq_true rfl), (by exact Nat.le_of_ble_eq_true rfl)⟩ ⟨(by exact Nat.le_of_ble_eq_true rfl), (by exact Nat.le_of_ble_eq_true rfl)⟩ (by exact Nat.le_of_ble_eq_true rfl) dL_does_173 (mw_i (c_X11_untie (G := G) (ad := am_ ad p q) μ a w r μr h)) (fun _ => ?_) rfl
  exact xw_reti C E rfl (p, q) rfl ⟨(by exact Nat.le_of_ble_eq_true rfl), (by exact Nat.le_of_ble_eq_true rfl)⟩ dL_does_176
set_option maxHeartbeats 4000000 in
set_option maxRecDepth 100000 in
theorem dz_177 {G : gp_} {X : ct_} {ad : Nat → Nat} {p q sb : Nat} {v a b k9 kd r : Int} {μ μr : mu_T} (C : cx_ G X cL_does "UrnHeapLaw" ({ frames := 11, cells := 20, slots := 1160, locals := 300 } : Room) (some .int) 7) (E : eg_ X ({ frames := 11, cells := 20, slots := 1160, locals := 300 } : Room) (fun A => qwi_ G A r (fun (u : Nat × Nat) => wl_ 151 (am_ ad u.1 u.2) (ceX G (am_ ad u.1 u.2)) μr))) (h : f_X11_weak μ a b = some (r, μr)) : wv_ G X (wl_ 151 (am_ ad p q) (ceX G (am_ ad p q)) μ) 0 0 177 [(6, .int (iI b)), (5, .int (iI a)), (4, .int (iI v)), (0, .ref sb), (1, .int (iI k9)), (2, .int (iI kd)), (3, .ref (ad 132))] [] := by
  refine xx_aload_n C 178 rfl 6 dL_does_177 rfl rfl ?_
  refine xx_iload C 180 rfl 1 dL_does_178 rfl ?_
  refine xx_iload C 182 rfl 0 dL_does_180 rfl ?_
  refine xw_cVi (As := [.int (iI a), .int (iI b)]) (st := []) C 185 rfl sw_a (i0 := 132) (a := ad 132) ((wl_get (by decide)).trans (by rw [ceX_132]; rfl)) rfl rfl ca_X11_weak cv_X11_weak w_500 rfl ⟨(by exact Nat.le_of_ble_eq_true rfl), (by exact Nat.le_of_ble_eq_true rfl)⟩ ⟨(by exact Nat.le_of_ble_eq_true rfl), (by exact Nat.le_of_ble_eq_true rfl)⟩ (by exact Nat.le_of_ble_eq_true rfl) dL_does_182 (mw_i (c_X11_weak (G := G) (ad := am_ ad p q) μ a b r μr h)) (fun _ => ?_) rfl
  exact xw_reti C E rfl (p, q) rfl ⟨(by exact Nat.le_of_ble_eq_true rfl), (by exact Nat.le_of_ble_eq_true rfl)⟩ dL_does_185
set_option maxHeartbeats 4000000 in
set_option maxRecDepth 100000 in
theorem dz_186 {G : gp_} {X : ct_} {ad : Nat → Nat} {p q sb : Nat} {v a b k9 kd r : Int} {μ μr : mu_T} (C : cx_ G X cL_does "UrnHeapLaw" ({ frames := 11, cells := 20, slots := 1160, locals := 300 } : Room) (some .int) 7) (E : eg_ X ({ frames := 11, cells := 20, slots := 1160, locals := 300 } : Room) (fun A => qwi_ G A r (fun (u : Nat × Nat) => wl_ 151 (am_ ad u.1 u.2) (ceX G (am_ ad u.1 u.2)) μr))) (h : f_X11_unweak μ a = some (r, μr)) : wv_ G X (wl_ 151 (am_ ad p q) (ceX G (am_ ad p q)) μ) 0 0 186 [(6, .int (iI b)), (5, .int (iI a)), (4, .int (iI v)), (0, .ref sb), (1, .int (iI k9)), (2, .int (iI kd)), (3, .ref (ad 132))] [] := by
  refine xx_aload_n C 187 rfl 6 dL_does_186 rfl rfl ?_
  refine xx_iload C 189 rfl 1 dL_does_187 rfl ?_
  refine xw_cVi (As := [.int (iI a)]) (st := []) C 192 rfl sw_a (i0 := 132) (a := ad 132) ((wl_get (by decide)).trans (by rw [ceX_132]; rfl)) rfl rfl ca_X11_unweak cv_X11_unweak w_508 rfl ⟨(by exact Nat.le_of_ble_eq_true rfl), (by exact Nat.le_of_ble_eq_true rfl)⟩ ⟨(by exact Nat.le_of_ble_eq_true rfl), (by exact Nat.le_of_ble_eq_true rfl)⟩ (by exact Nat.le_of_ble_eq_true rfl) dL_does_189 (mw_i (c_X11_unweak (G := G) (ad := am_ ad p q) μ a r μr h)) (fun _ => ?_) rfl
  exact xw_reti C E rfl (p, q) rfl ⟨(by exact Nat.le_of_ble_eq_true rfl), (by exact Nat.le_of_ble_eq_true rfl)⟩ dL_does_192
set_option maxHeartbeats 4000000 in
set_option maxRecDepth 100000 in
theorem dz_193 {G : gp_} {X : ct_} {ad : Nat → Nat} {p q sb : Nat} {v a b k9 kd r : Int} {μ μr : mu_T} (C : cx_ G X cL_does "UrnHeapLaw" ({ frames := 11, cells := 20, slots := 1160, locals := 300 } : Room) (some .int) 7) (E : eg_ X ({ frames := 11, cells := 20, slots := 1160, locals := 300 } : Room) (fun A => qwi_ G A r (fun (u : Nat × Nat) => wl_ 151 (am_ ad u.1 u.2) (ceX G (am_ ad u.1 u.2)) μr))) (h : rm_ v 7 (fun w => f_X11_name μ w a) = some (r, μr)) : wv_ G X (wl_ 151 (am_ ad p q) (ceX G (am_ ad p q)) μ) 0 0 193 [(6, .int (iI b)), (5, .int (iI a)), (4, .int (iI v)), (0, .ref sb), (1, .int (iI k9)), (2, .int (iI kd)), (3, .ref (ad 132))] [] := by
  refine xx_aload_n C 194 rfl 6 dL_does_193 rfl rfl ?_
  refine xx_iload C 196 rfl 2 dL_does_194 rfl ?_
  refine xx_bipush C 198 rfl dL_does_196 (by decide) ?_
  refine xx_irem C 199 rfl dL_does_198 h (fun w h => ?_)
  refine xx_iload C 201 rfl 1 dL_does_199 rfl ?_
  refine xw_cVi (As := [.int (iI w), .int (iI a)]) (st := []) C 204 rfl sw_a (i0 := 132) (a := ad 132) ((wl_get (by decide)).trans (by rw [ceX_132]; rfl)) rfl rfl ca_X11_name cv_X11_name w_516 rfl ⟨(by exact Nat.le_of_ble_eq_true rfl), (by exact Nat.le_of_ble_eq_true rfl)⟩ ⟨(by exact Nat.le_of_ble_eq_true rfl), (by exact Nat.le_of_ble_eq_true rfl)⟩ (by exact Nat.le_of_ble_eq_true rfl) dL_does_201 (mw_i (c_X11_name (G := G) (ad := am_ ad p q) μ w a r μr h)) (fun _ => ?_) rfl
  exact xw_reti C E rfl (p, q) rfl ⟨(by exact Nat.le_of_ble_eq_true rfl), (by exact Nat.le_of_ble_eq_true rfl)⟩ dL_does_204
set_option maxHeartbeats 4000000 in
set_option maxRecDepth 100000 in
theorem dz_205 {G : gp_} {X : ct_} {ad : Nat → Nat} {p q sb : Nat} {v a b k9 kd r : Int} {μ μr : mu_T} (C : cx_ G X cL_does "UrnHeapLaw" ({ frames := 11, cells := 20, slots := 1160, locals := 300 } : Room) (some .int) 7) (E : eg_ X ({ frames := 11, cells := 20, slots := 1160, locals := 300 } : Room) (fun A => qwi_ G A r (fun (u : Nat × Nat) => wl_ 151 (am_ ad u.1 u.2) (ceX G (am_ ad u.1 u.2)) μr))) (h : rm_ v 7 (fun w => f_X11_drop μ w) = some (r, μr)) : wv_ G X (wl_ 151 (am_ ad p q) (ceX G (am_ ad p q)) μ) 0 0 205 [(6, .int (iI b)), (5, .int (iI a)), (4, .int (iI v)), (0, .ref sb), (1, .int (iI k9)), (2, .int (iI kd)), (3, .ref (ad 132))] [] := by
  refine xx_aload_n C 206 rfl 6 dL_does_205 rfl rfl ?_
  refine xx_iload C 208 rfl 2 dL_does_206 rfl ?_
  refine xx_bipush C 210 rfl dL_does_208 (by decide) ?_
  refine xx_irem C 211 rfl dL_does_210 h (fun w h => ?_)
  refine xw_cVi (As := [.int (iI w)]) (st := []) C 214 rfl sw_a (i0 := 132) (a := ad 132) ((wl_get (by decide)).trans (by rw [ceX_132]; rfl)) rfl rfl ca_X11_drop cv_X11_drop w_527 rfl ⟨(by exact Nat.le_of_ble_eq_true rfl), (by exact Nat.le_of_ble_eq_true rfl)⟩ ⟨(by exact Nat.le_of_ble_eq_true rfl), (by exact Nat.le_of_ble_eq_true rfl)⟩ (by exact Nat.le_of_ble_eq_true rfl) dL_does_211 (mw_i (c_X11_drop (G := G) (ad := am_ ad p q) μ w r μr h)) (fun _ => ?_) rfl
  exact xw_reti C E rfl (p, q) rfl ⟨(by exact Nat.le_of_ble_eq_true rfl), (by exact Nat.le_of_ble_eq_true rfl)⟩ dL_does_214
set_option maxHeartbeats 4000000 in
set_option maxRecDepth 100000 in
theorem dz_215 {G : gp_} {X : ct_} {ad : Nat → Nat} {p q sb : Nat} {v a b k9 kd r : Int} {μ μr : mu_T} (C : cx_ G X cL_does "UrnHeapLaw" ({ frames := 11, cells := 20, slots := 1160, locals := 300 } : Room) (some .int) 7) (E : eg_ X ({ frames := 11, cells := 20, slots := 1160, locals := 300 } : Room) (fun A => qwi_ G A r (fun (u : Nat × Nat) => wl_ 151 (am_ ad u.1 u.2) (ceX G (am_ ad u.1 u.2)) μr))) (h : f_X11_begin μ = some (r, μr)) : wv_ G X (wl_ 151 (am_ ad p q) (ceX G (am_ ad p q)) μ) 0 0 215 [(6, .int (iI b)), (5, .int (iI a)), (4, .int (iI v)), (0, .ref sb), (1, .int (iI k9)), (2, .int (iI kd)), (3, .ref (ad 132))] [] := by
  refine xx_aload_n C 216 rfl 6 dL_does_215 rfl rfl ?_
  refine xw_cVi (As := []) (st := []) C 219 rfl sw_a (i0 := 132) (a := ad 132) ((wl_get (by decide)).trans (by rw [ceX_132]; rfl)) rfl rfl ca_X11_begin cv_X11_begin w_535 rfl ⟨(by exact Nat.le_of_ble_eq_true rfl), (by exact Nat.le_of_ble_eq_true rfl)⟩ ⟨(by exact Nat.le_of_ble_eq_true rfl), (by exact Nat.le_of_ble_eq_true rfl)⟩ (by exact Nat.le_of_ble_eq_true rfl) dL_does_216 (mw_i (c_X11_begin (G := G) (ad := am_ ad p q) μ  r μr h)) (fun _ => ?_) rfl
  exact xw_reti C E rfl (p, q) rfl ⟨(by exact Nat.le_of_ble_eq_true rfl), (by exact Nat.le_of_ble_eq_true rfl)⟩ dL_does_219
set_option maxHeartbeats 4000000 in
set_option maxRecDepth 100000 in
theorem dz_220 {G : gp_} {X : ct_} {ad : Nat → Nat} {p q sb : Nat} {v a b k9 kd r : Int} {μ μr : mu_T} (C : cx_ G X cL_does "UrnHeapLaw" ({ frames := 11, cells := 20, slots := 1160, locals := 300 } : Room) (some .int) 7) (E : eg_ X ({ frames := 11, cells := 20, slots := 1160, locals := 300 } : Room) (fun A => qwi_ G A r (fun (u : Nat × Nat) => wl_ 151 (am_ ad u.1 u.2) (ceX G (am_ ad u.1 u.2)) μr))) (h : rm_ v 8 (fun w => f_X11_step μ w) = some (r, μr)) : wv_ G X (wl_ 151 (am_ ad p q) (ceX G (am_ ad p q)) μ) 0 0 220 [(6, .int (iI b)), (5, .int (iI a)), (4, .int (iI v)), (0, .ref sb), (1, .int (iI k9)), (2, .int (iI kd)), (3, .ref (ad 132))] [] := by
  refine xx_aload_n C 221 rfl 6 dL_does_220 rfl rfl ?_
  refine xx_iload C 223 rfl 2 dL_does_221 rfl ?_
  refine xx_bipush C 225 rfl dL_does_223 (by decide) ?_
  refine xx_irem C 226 rfl dL_does_225 h (fun w h => ?_)
  refine xw_cVi (As := [.int (iI w)]) (st := []) C 229 rfl sw_a (i0 := 132) (a := ad 132) ((wl_get (by decide)).trans (by rw [ceX_132]; rfl)) rfl rfl ca_X11_step cv_X11_step w_553 rfl ⟨(by exact Nat.le_of_ble_eq_true rfl), (by exact Nat.le_of_ble_eq_true rfl)⟩ ⟨(by exact Nat.le_of_ble_eq_true rfl), (by exact Nat.le_of_ble_eq_true rfl)⟩ (by exact Nat.le_of_ble_eq_true rfl) dL_does_226 (mw_i (c_X11_step (G := G) (ad := am_ ad p q) μ w r μr h)) (fun _ => ?_) rfl
  exact xw_reti C E rfl (p, q) rfl ⟨(by exact Nat.le_of_ble_eq_true rfl), (by exact Nat.le_of_ble_eq_true rfl)⟩ dL_does_229
set_option maxHeartbeats 4000000 in
set_option maxRecDepth 100000 in
theorem dz_230 {G : gp_} {X : ct_} {ad : Nat → Nat} {p q sb : Nat} {v a b k9 kd r : Int} {μ μr : mu_T} (C : cx_ G X cL_does "UrnHeapLaw" ({ frames := 11, cells := 20, slots := 1160, locals := 300 } : Room) (some .int) 7) (E : eg_ X ({ frames := 11, cells := 20, slots := 1160, locals := 300 } : Room) (fun A => qwi_ G A r (fun (u : Nat × Nat) => wl_ 151 (am_ ad u.1 u.2) (ceX G (am_ ad u.1 u.2)) μr))) (h : f_X11_round μ = some (r, μr)) : wv_ G X (wl_ 151 (am_ ad p q) (ceX G (am_ ad p q)) μ) 0 0 230 [(6, .int (iI b)), (5, .int (iI a)), (4, .int (iI v)), (0, .ref sb), (1, .int (iI k9)), (2, .int (iI kd)), (3, .ref (ad 132))] [] := by
  refine xx_aload_n C 231 rfl 6 dL_does_230 rfl rfl ?_
  refine xw_cVi (As := []) (st := []) C 234 rfl sw_a (i0 := 132) (a := ad 132) ((wl_get (by decide)).trans (by rw [ceX_132]; rfl)) rfl rfl ca_X11_round cv_X11_round w_598 rfl ⟨(by exact Nat.le_of_ble_eq_true rfl), (by exact Nat.le_of_ble_eq_true rfl)⟩ ⟨(by exact Nat.le_of_ble_eq_true rfl), (by exact Nat.le_of_ble_eq_true rfl)⟩ (by exact Nat.le_of_ble_eq_true rfl) dL_does_231 (mw_i (c_X11_round (G := G) (ad := am_ ad p q) μ  r μr h)) (fun _ => ?_) rfl
  exact xw_reti C E rfl (p, q) rfl ⟨(by exact Nat.le_of_ble_eq_true rfl), (by exact Nat.le_of_ble_eq_true rfl)⟩ dL_does_234
set_option maxHeartbeats 4000000 in
set_option maxRecDepth 100000 in
theorem dz_235 {G : gp_} {X : ct_} {ad : Nat → Nat} {p q sb : Nat} {v a b k9 kd r : Int} {μ μr : mu_T} (C : cx_ G X cL_does "UrnHeapLaw" ({ frames := 11, cells := 20, slots := 1160, locals := 300 } : Room) (some .int) 7) (E : eg_ X ({ frames := 11, cells := 20, slots := 1160, locals := 300 } : Room) (fun A => qwi_ G A r (fun (u : Nat × Nat) => wl_ 151 (am_ ad u.1 u.2) (ceX G (am_ ad u.1 u.2)) μr))) (h : f_X11_rite μ = some (r, μr)) : wv_ G X (wl_ 151 (am_ ad p q) (ceX G (am_ ad p q)) μ) 0 0 235 [(6, .int (iI b)), (5, .int (iI a)), (4, .int (iI v)), (0, .ref sb), (1, .int (iI k9)), (2, .int (iI kd)), (3, .ref (ad 132))] [] := by
  refine xx_aload_n C 236 rfl 6 dL_does_235 rfl rfl ?_
  refine xw_cVi (As := []) (st := []) C 239 rfl sw_a (i0 := 132) (a := ad 132) ((wl_get (by decide)).trans (by rw [ceX_132]; rfl)) rfl rfl ca_X11_rite cv_X11_rite w_606 rfl ⟨(by exact Nat.le_of_ble_eq_true rfl), (by exact Nat.le_of_ble_eq_true rfl)⟩ ⟨(by exact Nat.le_of_ble_eq_true rfl), (by exact Nat.le_of_ble_eq_true rfl)⟩ (by exact Nat.le_of_ble_eq_true rfl) dL_does_236 (mw_i (c_X11_rite (G := G) (ad := am_ ad p q) μ  r μr h)) (fun _ => ?_) rfl
  exact xw_reti C E rfl (p, q) rfl ⟨(by exact Nat.le_of_ble_eq_true rfl), (by exact Nat.le_of_ble_eq_true rfl)⟩ dL_does_239
set_option maxHeartbeats 4000000 in
set_option maxRecDepth 100000 in
theorem dz_240 {G : gp_} {X : ct_} {ad : Nat → Nat} {p q sb n : Nat} {v a b k9 kd r : Int} {μ μr σ : mu_T} : cx_ G X cL_does "UrnHeapLaw" ({ frames := 11, cells := 20, slots := 1160, locals := 300 } : Room) (some .int) 7 → eg_ X ({ frames := 11, cells := 20, slots := 1160, locals := 300 } : Room) (fun A => qwi_ G A r (fun (u : Nat × Nat) => wl_ 151 (am_ ad u.1 u.2) (ceX G (am_ ad u.1 u.2)) μr)) → f_L_text v a b = some σ → σ 1 (-1) = 16 → (∀ q : Nat, q < 16 → -128 ≤ σ 1 q ∧ σ 1 q ≤ 127) → n ≤ 16 → σ 0 1 = 0 → σ 0 3 = (n : Int) → f_J0_length_8abf5_o1 (tT_ σ n) = some (n : Int) → (∀ i : Nat, i < n → f_J0_charAt_5068e_o1 (tT_ σ n) (i : Int) = some (σ 1 (i : Int))) → bd_ (ap_9 (σ 1) n 0 μ) (fun μ1 => f_X11_run μ1) = some (r, μr) → wv_ G X (wl_ 151 (am_ ad p q) (ceX G (am_ ad p q)) μ) 0 0 240 [(6, .int (iI b)), (5, .int (iI a)), (4, .int (iI v)), (0, .ref sb), (1, .int (iI k9)), (2, .int (iI kd)), (3, .ref (ad 132))] [] := by
  intro C E hx hcap hb hn hco hct hlen hch hr
  unfold f_L_text at hx
  obtain ⟨m1, h1, hx⟩ := bd_e hx
  obtain ⟨m2, h2, hx⟩ := bd_e hx
  obtain ⟨m3, h3, hx⟩ := bd_e hx
  refine xx_aload_n C 241 rfl 6 dL_does_240 rfl rfl ?_
  refine xv_new (ci := 1) (fs := [.null, .int (iI 0), .int (iI 0), .int (iI 0)]) C 244 rfl in_J4 tyJ4 tyJ4_ok rfl (fun j hj => by rcases (show j = 0 ∨ j = 1 ∨ j = 2 ∨ j = 3 by omega) with rfl | rfl | rfl | rfl <;> rfl) ⟨w_614, w_264, w_36⟩ ⟨(by exact Nat.le_of_ble_eq_true rfl), (by exact Nat.le_of_ble_eq_true rfl)⟩ dL_does_241 (fun sbn => ?_)
  refine xx_dup C 245 rfl dL_does_244 rfl ?_
  refine xv_ctor (k := 0 + 1) (n := 0 + 4) (e := .inr (1, [.null, .int (iI 0), .int (iI 0), .int (iI 0)])) (ws := wl_ 151 (am_ ad p q) (ceX G (am_ ad p q)) μ) (q := sbn) (st := [.ref sbn, .ref (ad 132)]) (As := []) C 248 rfl ca_J4_init_da8c8 ⟨rfl, w_266⟩ w_615 rfl ⟨(by exact Nat.le_of_ble_eq_true rfl), (by exact Nat.le_of_ble_eq_true rfl)⟩ ⟨(by exact Nat.le_of_ble_eq_true rfl), (by exact Nat.le_of_ble_eq_true rfl)⟩ (by exact Nat.le_of_ble_eq_true rfl) dL_does_245 (i_J4) (fun un => ?_) rfl
  generalize ha9 : (fun k : Nat => if k = 0 then sbn else un 1) = at9
  have e0 : sbn = at9 0 := by rw [← ha9]; rfl
  have ew : (([(sbn, (.inr (1, [.ref (un 1), .int (iI 0), .int (iI 0), .int (iI 0)]) : va_E)), ((un 1), .inl (G.1.1 101, (br_ 16 (-1)).toNat, .inl (fun j => iI (br_ 16 (j : Nat)))))]) : va_W) = wl_ 2 at9 (ceS G at9) mS0_ := by rw [← ha9]; rfl
  refine wv_eq (ws2 := (wl_ 151 (am_ ad p q) (ceX G (am_ ad p q)) μ) ++ wl_ 2 at9 (ceS G at9) mS0_) (congrArg (fun z => (wl_ 151 (am_ ad p q) (ceX G (am_ ad p q)) μ) ++ z) ew) rfl rfl ?_
  rw [e0]
  refine xx_ldcs C 250 rfl 0 rfl rfl dL_does_248 ?_
  refine xw_cVr (As := [.ref (G.2.1 (200 + (10 : Int).toNat))]) (st := [.ref (ad 132)]) C 253 rfl sw_r (a := at9 0) (yapp_r (k := 0) rfl) rfl rfl ca_J4_append_15ec4 cv_J4_append_15ec4 w_617 rfl ⟨(by exact Nat.le_of_ble_eq_true rfl), (by exact Nat.le_of_ble_eq_true rfl)⟩ ⟨(by exact Nat.le_of_ble_eq_true rfl), (by exact Nat.le_of_ble_eq_true rfl)⟩ (by exact Nat.le_of_ble_eq_true rfl) dL_does_250 (mw_o (c_J4_append_15ec4_o0 (G := G) (ad := at9) mS0_ 10 m1 h1)) (fun _ => ?_) rfl
  refine xx_iload C 255 rfl 1 dL_does_253 rfl ?_
  refine xw_cVr (As := [.int (iI a)]) (st := [.ref (ad 132)]) C 258 rfl sw_r (a := at9 0) (yapp_r (k := 0) rfl) rfl rfl ca_J4_append_bf812 cv_J4_append_bf812 w_733 rfl ⟨(by exact Nat.le_of_ble_eq_true rfl), (by exact Nat.le_of_ble_eq_true rfl)⟩ ⟨(by exact Nat.le_of_ble_eq_true rfl), (by exact Nat.le_of_ble_eq_true rfl)⟩ (by exact Nat.le_of_ble_eq_true rfl) dL_does_255 (mw_o (c_J4_append_bf812_o0 (G := G) (ad := at9) m1 a m2 h2)) (fun _ => ?_) rfl
  refine xx_ldcs C 260 rfl 1 rfl rfl dL_does_258 ?_
  refine xw_cVr (As := [.ref (G.2.1 (200 + (11 : Int).toNat))]) (st := [.ref (ad 132)]) C 263 rfl sw_r (a := at9 0) (yapp_r (k := 0) rfl) rfl rfl ca_J4_append_15ec4 cv_J4_append_15ec4 w_617 rfl ⟨(by exact Nat.le_of_ble_eq_true rfl), (by exact Nat.le_of_ble_eq_true rfl)⟩ ⟨(by exact Nat.le_of_ble_eq_true rfl), (by exact Nat.le_of_ble_eq_true rfl)⟩ (by exact Nat.le_of_ble_eq_true rfl) dL_does_260 (mw_o (c_J4_append_15ec4_o0 (G := G) (ad := at9) m2 11 m3 h3)) (fun _ => ?_) rfl
  refine xx_iload C 265 rfl 2 dL_does_263 rfl ?_
  refine xx_iconst C 266 rfl dL_does_265 ?_
  refine xx_irem C 267 rfl dL_does_266 hx (fun w hx => ?_)
  obtain ⟨m4, h4, hx⟩ := bd_e hx
  obtain ⟨m5, h5, hx⟩ := bd_e hx
  obtain ⟨m6, h6, hx⟩ := bd_e hx
  refine xw_cVr (As := [.int (iI w)]) (st := [.ref (ad 132)]) C 270 rfl sw_r (a := at9 0) (yapp_r (k := 0) rfl) rfl rfl ca_J4_append_bf812 cv_J4_append_bf812 w_733 rfl ⟨(by exact Nat.le_of_ble_eq_true rfl), (by exact Nat.le_of_ble_eq_true rfl)⟩ ⟨(by exact Nat.le_of_ble_eq_true rfl), (by exact Nat.le_of_ble_eq_true rfl)⟩ (by exact Nat.le_of_ble_eq_true rfl) dL_does_267 (mw_o (c_J4_append_bf812_o0 (G := G) (ad := at9) m3 w m4 h4)) (fun _ => ?_) rfl
  refine xx_ldcs C 272 rfl 2 rfl rfl dL_does_270 ?_
  refine xw_cVr (As := [.ref (G.2.1 (200 + (12 : Int).toNat))]) (st := [.ref (ad 132)]) C 275 rfl sw_r (a := at9 0) (yapp_r (k := 0) rfl) rfl rfl ca_J4_append_15ec4 cv_J4_append_15ec4 w_617 rfl ⟨(by exact Nat.le_of_ble_eq_true rfl), (by exact Nat.le_of_ble_eq_true rfl)⟩ ⟨(by exact Nat.le_of_ble_eq_true rfl), (by exact Nat.le_of_ble_eq_true rfl)⟩ (by exact Nat.le_of_ble_eq_true rfl) dL_does_272 (mw_o (c_J4_append_15ec4_o0 (G := G) (ad := at9) m4 12 m5 h5)) (fun _ => ?_) rfl
  refine xx_iload C 277 rfl 0 dL_does_275 rfl ?_
  refine xw_cVr (As := [.int (iI b)]) (st := [.ref (ad 132)]) C 280 rfl sw_r (a := at9 0) (yapp_r (k := 0) rfl) rfl rfl ca_J4_append_bf812 cv_J4_append_bf812 w_733 rfl ⟨(by exact Nat.le_of_ble_eq_true rfl), (by exact Nat.le_of_ble_eq_true rfl)⟩ ⟨(by exact Nat.le_of_ble_eq_true rfl), (by exact Nat.le_of_ble_eq_true rfl)⟩ (by exact Nat.le_of_ble_eq_true rfl) dL_does_277 (mw_o (c_J4_append_bf812_o0 (G := G) (ad := at9) m5 b m6 h6)) (fun _ => ?_) rfl
  have K9 : ∀ (z : Int), f_J4_append_15ec4_o0 m6 z = some σ → wv_ G X ((wl_ 151 (am_ ad p q) (ceX G (am_ ad p q)) μ) ++ wl_ 2 at9 (ceS G at9) m6) 2 20 307 [(6, .int (iI b)), (5, .int (iI a)), (4, .int (iI v)), (0, .ref sb), (1, .int (iI k9)), (2, .int (iI kd)), (3, .ref (ad 132))] [.ref (G.2.1 (200 + (z : Int).toNat)), .ref (at9 0), .ref (ad 132)] := by
    intro z hz
    refine xw_cVr (As := [.ref (G.2.1 (200 + (z : Int).toNat))]) (st := [.ref (ad 132)]) C 310 rfl sw_r (a := at9 0) (yapp_r (k := 0) rfl) rfl rfl ca_J4_append_15ec4 cv_J4_append_15ec4 w_617 rfl ⟨(by exact Nat.le_of_ble_eq_true rfl), (by exact Nat.le_of_ble_eq_true rfl)⟩ ⟨(by exact Nat.le_of_ble_eq_true rfl), (by exact Nat.le_of_ble_eq_true rfl)⟩ (by exact Nat.le_of_ble_eq_true rfl) dL_does_307 (mw_o (c_J4_append_15ec4_o0 (G := G) (ad := at9) m6 z σ hz)) (fun _ => ?_) rfl
    refine xw_cVr (As := []) (st := [.ref (ad 132)]) C 313 rfl sw_r (a := at9 0) (yapp_r (k := 0) rfl) rfl rfl ca_J4_toString_0e30d cv_J4_toString_0e30d w_763 rfl ⟨(by exact Nat.le_of_ble_eq_true rfl), (by exact Nat.le_of_ble_eq_true rfl)⟩ ⟨(by exact Nat.le_of_ble_eq_true rfl), (by exact Nat.le_of_ble_eq_true rfl)⟩ (by exact Nat.le_of_ble_eq_true rfl) dL_does_310 (c_toStr hcap hb hn hco hct) (fun u => ?_) rfl
    refine wv_m9 (w2 := (wl_ 151 (am_ ad p q) (ceX G (am_ ad p q)) μ) ++ wl_ 2 (fun k : Nat => if k = 0 then u.1 else u.2) (ceT G (fun k : Nat => if k = 0 then u.1 else u.2)) (tT_ σ n)) (fun H hP => ?_) (fun A hD => ?_) ?_
    · rw [tT_e]
      rw [List.append_assoc] at hP
      exact yP_d hP
    · rw [tT_e]
      rw [List.append_assoc] at hD
      exact yD_d hD
    refine xw_cSi (rm2 := ({ frames := 10, cells := 16, slots := 1120, locals := 227 } : Room)) (As := [.ref (ad 132), .ref ((fun k : Nat => if k = 0 then u.1 else u.2) 1)]) (st := []) C 316 rfl sw_a ca_L_runs cs_L_runs w_816 rfl ⟨(by exact Nat.le_of_ble_eq_true rfl), (by exact Nat.le_of_ble_eq_true rfl)⟩ ⟨(by exact Nat.le_of_ble_eq_true rfl), (by exact Nat.le_of_ble_eq_true rfl)⟩ (by exact Nat.le_of_ble_eq_true rfl) dL_does_313 (c_runs (G := G) (ad := ad) (at9 := (fun k : Nat => if k = 0 then u.1 else u.2)) (p := p) (q := q) hn hlen hch hr) (fun u2 => ?_) rfl
    refine wv_m9 (fun H hP => yP_l hP) (fun A hD => yD_l hD) ?_
    exact xw_reti C E rfl (u2.1, u2.2) rfl ⟨(by exact Nat.le_of_ble_eq_true rfl), (by exact Nat.le_of_ble_eq_true rfl)⟩ dL_does_316
  refine wv_eq (ws2 := (wl_ 151 (am_ ad p q) (ceX G (am_ ad p q)) μ) ++ wl_ 2 at9 (ceS G at9) m6) (k2 := 2) (n2 := 20) rfl rfl rfl ?_
  refine xx_iload C 282 rfl 2 dL_does_280 rfl ?_
  refine xx_iconst C 283 rfl dL_does_282 ?_
  refine xx_irem C 284 rfl dL_does_283 hx (fun w3 hx => ?_)
  refine xx_if_ne (tgt := 292) C 287 rfl dL_does_284 (by decide) hx (fun hx => ?_) (fun hx => ?_)
  · refine xx_iload C 294 rfl 2 dL_does_292 rfl ?_
    refine xx_iconst C 295 rfl dL_does_294 ?_
    refine xx_irem C 296 rfl dL_does_295 hx (fun w4 hx => ?_)
    refine xx_iconst C 297 rfl dL_does_296 ?_
    refine xx_icmp_ne (tgt := 305) C 300 rfl dL_does_297 (by decide) hx (fun hx => ?_) (fun hx => ?_)
    · refine xx_ldcs C 307 rfl 5 rfl rfl dL_does_305 ?_
      exact K9 15 hx
    · refine xx_ldcs C 302 rfl 4 rfl rfl dL_does_300 ?_
      refine xx_goto C 307 dL_does_302 (by decide) ?_
      exact K9 14 hx
  · refine xx_ldcs C 289 rfl 3 rfl rfl dL_does_287 ?_
    refine xx_goto C 307 dL_does_289 (by decide) ?_
    exact K9 13 hx
/-- what one drawn call answers -/
def f_L_does (μ : mu_T) (kd v a b : Int) : Option (Int × mu_T) := ts_ kd [0, 1, 2, 3, 4, 5, 6, 7, 8, 9, 10, 11, 12, 13, 14, 15, 16, 17, 18, 19, 20, 21] [rm_ v 4 (fun w => eq_ w 0 (f_X11_urn μ 1) (f_X11_urn μ 0)), rm_ v 4 (fun w => eq_ w 0 (f_X11_urn μ 1) (f_X11_urn μ 0)), rm_ v 4 (fun w => eq_ w 0 (f_X11_urn μ 1) (f_X11_urn μ 0)), rm_ v 4 (fun w => eq_ w 0 (f_X11_urn μ 1) (f_X11_urn μ 0)), rm_ v 5 (fun w => f_X11_tie μ a w b), rm_ v 5 (fun w => f_X11_tie μ a w b), rm_ v 5 (fun w => f_X11_tie μ a w b), rm_ v 5 (fun w => f_X11_tie μ a w b), rm_ v 5 (fun w => f_X11_tie μ a w b), rm_ v 4 (fun w => f_X11_untie μ a w), f_X11_weak μ a b, f_X11_unweak μ a, rm_ v 7 (fun w => f_X11_name μ w a), rm_ v 7 (fun w => f_X11_name μ w a), rm_ v 7 (fun w => f_X11_drop μ w), f_X11_begin μ, rm_ v 8 (fun w => f_X11_step μ w), rm_ v 8 (fun w => f_X11_step μ w), rm_ v 8 (fun w => f_X11_step μ w), f_X11_round μ, f_X11_rite μ, f_X11_rite μ] (bd_ (f_L_text v a b) (fun σ => bd_ (ap_9 (σ 1) (σ 0 3).toNat 0 μ) (fun μ1 => f_X11_run μ1)))
def tk_9 (v a b : Int) : Prop := ∃ (σ : mu_T) (n : Nat), f_L_text v a b = some σ ∧ σ 1 (-1) = 16 ∧ (∀ q : Nat, q < 16 → -128 ≤ σ 1 q ∧ σ 1 q ≤ 127) ∧ n ≤ 16 ∧ σ 0 1 = 0 ∧ σ 0 3 = (n : Int) ∧ f_J0_length_8abf5_o1 (tT_ σ n) = some (n : Int) ∧ (∀ i : Nat, i < n → f_J0_charAt_5068e_o1 (tT_ σ n) (i : Int) = some (σ 1 (i : Int)))
theorem bd_9 {α β : Type} {a : α} {f : α → Option β} : bd_ (some a) f = f a := rfl
set_option maxHeartbeats 4000000 in
set_option maxRecDepth 100000 in
theorem c_does {G : gp_} {ad : Nat → Nat} {sb L : Nat} {xs : Nat → Int32} (hL : L ≤ 260) {p q k : Nat} {kd r : Int} {μ μr : mu_T} (hk : k < 900) (ht : tk_9 (pk_9 xs L (k + 1) 1000) (pk_9 xs L (k + 2) 9) (pk_9 xs L (k + 3) 9)) (h : f_L_does μ kd (pk_9 xs L (k + 1) 1000) (pk_9 xs L (k + 2) 9) (pk_9 xs L (k + 3) 9) = some (r, μr)) : ms_9 yL_does cL_does 7 (some .int) ({ frames := 11, cells := 20, slots := 1160, locals := 300 } : Room) G [.ref sb, .int (iI (k : Nat)), .int (iI kd), .ref (ad 132)] (wl_ 151 (am_ ad p q) (ceX G (am_ ad p q)) μ) sb L xs (fun A => qwi_ G A r (fun (u : Nat × Nat) => wl_ 151 (am_ ad u.1 u.2) (ceX G (am_ ad u.1 u.2)) μr)) := by
  refine ms_in (own := "UrnHeapLaw") (by decide) rfl (by exact Nat.le_of_ble_eq_true rfl) (fun X C Sx E => ?_)
  show wv_ G X (wl_ 151 (am_ ad p q) (ceX G (am_ ad p q)) μ) 0 0 0 [(0, .ref sb), (1, .int (iI (k : Nat))), (2, .int (iI kd)), (3, .ref (ad 132))] []
  refine xx_aload_n C 1 rfl 0 dL_does_0 rfl rfl ?_
  refine xx_iload_n C 2 rfl 1 dL_does_1 rfl rfl ?_
  refine xx_iconst C 3 rfl dL_does_2 ?_
  refine xx_iadd C 4 rfl dL_does_3 ?_
  refine xx_sipush C 7 rfl dL_does_4 (by decide) ?_
  rw [show (k : Int) + 1 = ((k + 1 : Nat) : Int) by omega]
  refine xw_cXi (As := [.ref sb, .int (iI ((k + 1 : Nat) : Int)), .int (iI ((1000 : Nat) : Int))]) (st := []) C Sx 10 rfl (sw_l (w0 := [])) ca_L_pick cs_L_pick w_393 rfl ⟨(by exact Nat.le_of_ble_eq_true rfl), (by exact Nat.le_of_ble_eq_true rfl)⟩ ⟨(by exact Nat.le_of_ble_eq_true rfl), (by exact Nat.le_of_ble_eq_true rfl)⟩ (by exact Nat.le_of_ble_eq_true rfl) dL_does_7 (c_pick hL (k := k + 1) (n := 1000) (by omega) (by decide) (by decide)) (fun _ => ?_) rfl
  refine xx_istore (lv1 := [(4, .int (iI (pk_9 xs L (k + 1) 1000))), (0, .ref sb), (1, .int (iI (k : Nat))), (2, .int (iI kd)), (3, .ref (ad 132))]) C 12 rfl (by decide) dL_does_10 rfl ?_
  refine xx_aload_n C 13 rfl 1 dL_does_12 rfl rfl ?_
  refine xx_iload_n C 14 rfl 2 dL_does_13 rfl rfl ?_
  refine xx_iconst C 15 rfl dL_does_14 ?_
  refine xx_iadd C 16 rfl dL_does_15 ?_
  refine xx_bipush C 18 rfl dL_does_16 (by decide) ?_
  rw [show (k : Int) + 2 = ((k + 2 : Nat) : Int) by omega]
  refine xw_cXi (As := [.ref sb, .int (iI ((k + 2 : Nat) : Int)), .int (iI ((9 : Nat) : Int))]) (st := []) C Sx 21 rfl (sw_l (w0 := [])) ca_L_pick cs_L_pick w_393 rfl ⟨(by exact Nat.le_of_ble_eq_true rfl), (by exact Nat.le_of_ble_eq_true rfl)⟩ ⟨(by exact Nat.le_of_ble_eq_true rfl), (by exact Nat.le_of_ble_eq_true rfl)⟩ (by exact Nat.le_of_ble_eq_true rfl) dL_does_18 (c_pick hL (k := k + 2) (n := 9) (by omega) (by decide) (by decide)) (fun _ => ?_) rfl
  refine xx_istore (lv1 := [(5, .int (iI (pk_9 xs L (k + 2) 9))), (4, .int (iI (pk_9 xs L (k + 1) 1000))), (0, .ref sb), (1, .int (iI (k : Nat))), (2, .int (iI kd)), (3, .ref (ad 132))]) C 23 rfl (by decide) dL_does_21 rfl ?_
  refine xx_aload_n C 24 rfl 2 dL_does_23 rfl rfl ?_
  refine xx_iload_n C 25 rfl 3 dL_does_24 rfl rfl ?_
  refine xx_iconst C 26 rfl dL_does_25 ?_
  refine xx_iadd C 27 rfl dL_does_26 ?_
  refine xx_bipush C 29 rfl dL_does_27 (by decide) ?_
  rw [show (k : Int) + 3 = ((k + 3 : Nat) : Int) by omega]
  refine xw_cXi (As := [.ref sb, .int (iI ((k + 3 : Nat) : Int)), .int (iI ((9 : Nat) : Int))]) (st := []) C Sx 32 rfl (sw_l (w0 := [])) ca_L_pick cs_L_pick w_393 rfl ⟨(by exact Nat.le_of_ble_eq_true rfl), (by exact Nat.le_of_ble_eq_true rfl)⟩ ⟨(by exact Nat.le_of_ble_eq_true rfl), (by exact Nat.le_of_ble_eq_true rfl)⟩ (by exact Nat.le_of_ble_eq_true rfl) dL_does_29 (c_pick hL (k := k + 3) (n := 9) (by omega) (by decide) (by decide)) (fun _ => ?_) rfl
  refine xx_istore (lv1 := [(6, .int (iI (pk_9 xs L (k + 3) 9))), (5, .int (iI (pk_9 xs L (k + 2) 9))), (4, .int (iI (pk_9 xs L (k + 1) 1000))), (0, .ref sb), (1, .int (iI (k : Nat))), (2, .int (iI kd)), (3, .ref (ad 132))]) C 34 rfl (by decide) dL_does_32 rfl ?_
  generalize pk_9 xs L (k + 1) 1000 = v at h ht ⊢
  generalize pk_9 xs L (k + 2) 9 = a at h ht ⊢
  generalize pk_9 xs L (k + 3) 9 = b at h ht ⊢
  refine wv_eq (ws2 := wl_ 151 (am_ ad p q) (ceX G (am_ ad p q)) μ) (k2 := 0) (n2 := 0) rfl rfl rfl ?_
  refine xx_iload_n C 35 rfl 5 dL_does_34 rfl rfl ?_
  refine xx_tsw C [0, 1, 2, 3, 4, 5, 6, 7, 8, 9, 10, 11, 12, 13, 14, 15, 16, 17, 18, 19, 20, 21] _ [136, 136, 136, 136, 153, 153, 153, 153, 153, 166, 177, 186, 193, 193, 205, 215, 220, 220, 220, 230, 235, 235] 240 dL_does_35 (by decide) rfl h (fun h => ?_) ⟨fun h => ?_, fun h => ?_, fun h => ?_, fun h => ?_, fun h => ?_, fun h => ?_, fun h => ?_, fun h => ?_, fun h => ?_, fun h => ?_, fun h => ?_, fun h => ?_, fun h => ?_, fun h => ?_, fun h => ?_, fun h => ?_, fun h => ?_, fun h => ?_, fun h => ?_, fun h => ?_, fun h => ?_, fun h => ?_, trivial⟩
  · obtain ⟨σ, n, t1, t2, t3, t4, t5, t6, t7, t8⟩ := ht
    rw [t1, bd_9, t6, Int.toNat_natCast] at h
    exact dz_240 C E t1 t2 t3 t4 t5 t6 t7 t8 h
  · exact dz_136 C E h
  · exact dz_136 C E h
  · exact dz_136 C E h
  · exact dz_136 C E h
  · exact dz_153 C E h
  · exact dz_153 C E h
  · exact dz_153 C E h
  · exact dz_153 C E h
  · exact dz_153 C E h
  · exact dz_166 C E h
  · exact dz_177 C E h
  · exact dz_186 C E h
  · exact dz_193 C E h
  · exact dz_193 C E h
  · exact dz_205 C E h
  · exact dz_215 C E h
  · exact dz_220 C E h
  · exact dz_220 C E h
  · exact dz_220 C E h
  · exact dz_230 C E h
  · exact dz_235 C E h
  · exact dz_235 C E h
