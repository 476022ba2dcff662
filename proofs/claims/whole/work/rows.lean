section
-- ===== PART A: goes FIRST, ahead of the names: the tables' words, and 'selects' of the private methods out of them =====
/-- a private method of a class that the tables say can be made, by its rows of tables_1 -/
def lw_okq (q : MethodName × Nat) : Prop := (q.1.cls ≠ "java/lang/invoke/MethodHandle" ∧ q.1.cls ≠ "java/lang/invoke/VarHandle") ∧ Cond.instantiable q.1.cls q.2 ∈ tables_1 ∧ Cond.privateMethod q.1 ∈ tables_1 ∧ Cond.instanceMethod q.1 ∈ tables_1
theorem lw_p0 : lw_okq (⟨"UrnHeap$Hands", "colourOfNew", "(I)I"⟩, 2) := ⟨⟨by decide +kernel, by decide +kernel⟩, List.mem_of_getElem? (i := 172) (by decide +kernel), List.mem_of_getElem? (i := 375) (by decide +kernel), List.mem_of_getElem? (i := 376) (by decide +kernel)⟩
theorem lw_p1 : lw_okq (⟨"UrnHeap$Sexton", "markRoots", "()V"⟩, 2) := ⟨⟨by decide +kernel, by decide +kernel⟩, List.mem_of_getElem? (i := 185) (by decide +kernel), List.mem_of_getElem? (i := 509) (by decide +kernel), List.mem_of_getElem? (i := 510) (by decide +kernel)⟩
theorem lw_p2 : lw_okq (⟨"UrnHeap$Sexton", "doPartsUntilOver", "(I)I"⟩, 2) := ⟨⟨by decide +kernel, by decide +kernel⟩, List.mem_of_getElem? (i := 185) (by decide +kernel), List.mem_of_getElem? (i := 526) (by decide +kernel), List.mem_of_getElem? (i := 527) (by decide +kernel)⟩
theorem lw_p3 : lw_okq (⟨"UrnHeap$Sexton", "sweepNext", "()V"⟩, 2) := ⟨⟨by decide +kernel, by decide +kernel⟩, List.mem_of_getElem? (i := 185) (by decide +kernel), List.mem_of_getElem? (i := 530) (by decide +kernel), List.mem_of_getElem? (i := 531) (by decide +kernel)⟩
theorem lw_p4 : lw_okq (⟨"UrnHeap$Sexton", "blackenFirst", "()V"⟩, 2) := ⟨⟨by decide +kernel, by decide +kernel⟩, List.mem_of_getElem? (i := 185) (by decide +kernel), List.mem_of_getElem? (i := 541) (by decide +kernel), List.mem_of_getElem? (i := 542) (by decide +kernel)⟩
theorem lw_p5 : lw_okq (⟨"UrnHeap$Sexton", "makeRitesDue", "()Z"⟩, 2) := ⟨⟨by decide +kernel, by decide +kernel⟩, List.mem_of_getElem? (i := 185) (by decide +kernel), List.mem_of_getElem? (i := 551) (by decide +kernel), List.mem_of_getElem? (i := 552) (by decide +kernel)⟩
theorem lw_p6 : lw_okq (⟨"UrnHeap$Sexton", "beginSweep", "()V"⟩, 2) := ⟨⟨by decide +kernel, by decide +kernel⟩, List.mem_of_getElem? (i := 185) (by decide +kernel), List.mem_of_getElem? (i := 556) (by decide +kernel), List.mem_of_getElem? (i := 557) (by decide +kernel)⟩
theorem lw_p7 : lw_okq (⟨"UrnHeap$Paths", "rootsByRite", "(I)I"⟩, 2) := ⟨⟨by decide +kernel, by decide +kernel⟩, List.mem_of_getElem? (i := 198) (by decide +kernel), List.mem_of_getElem? (i := 605) (by decide +kernel), List.mem_of_getElem? (i := 606) (by decide +kernel)⟩
theorem lw_p8 : lw_okq (⟨"UrnHeap$Paths", "reachFrom", "(I)I"⟩, 2) := ⟨⟨by decide +kernel, by decide +kernel⟩, List.mem_of_getElem? (i := 198) (by decide +kernel), List.mem_of_getElem? (i := 614) (by decide +kernel), List.mem_of_getElem? (i := 615) (by decide +kernel)⟩
theorem lw_p9 : lw_okq (⟨"UrnHeap$Paths", "targetsOfAll", "(I)I"⟩, 2) := ⟨⟨by decide +kernel, by decide +kernel⟩, List.mem_of_getElem? (i := 198) (by decide +kernel), List.mem_of_getElem? (i := 618) (by decide +kernel), List.mem_of_getElem? (i := 619) (by decide +kernel)⟩
theorem lw_p10 : lw_okq (⟨"UrnHeap$Paths", "targets", "(I)I"⟩, 2) := ⟨⟨by decide +kernel, by decide +kernel⟩, List.mem_of_getElem? (i := 198) (by decide +kernel), List.mem_of_getElem? (i := 625) (by decide +kernel), List.mem_of_getElem? (i := 626) (by decide +kernel)⟩
theorem lw_p11 : lw_okq (⟨"UrnHeap$Paths", "isHeldBySome", "(II)Z"⟩, 2) := ⟨⟨by decide +kernel, by decide +kernel⟩, List.mem_of_getElem? (i := 198) (by decide +kernel), List.mem_of_getElem? (i := 638) (by decide +kernel), List.mem_of_getElem? (i := 639) (by decide +kernel)⟩
theorem lw_p12 : lw_okq (⟨"UrnHeap$Paths", "weighAll", "()V"⟩, 2) := ⟨⟨by decide +kernel, by decide +kernel⟩, List.mem_of_getElem? (i := 198) (by decide +kernel), List.mem_of_getElem? (i := 685) (by decide +kernel), List.mem_of_getElem? (i := 686) (by decide +kernel)⟩
theorem lw_p13 : lw_okq (⟨"UrnHeap$Paths", "heavierThan", "(I)I"⟩, 2) := ⟨⟨by decide +kernel, by decide +kernel⟩, List.mem_of_getElem? (i := 198) (by decide +kernel), List.mem_of_getElem? (i := 691) (by decide +kernel), List.mem_of_getElem? (i := 692) (by decide +kernel)⟩
theorem lw_p14 : lw_okq (⟨"UrnHeap$Orders", "readOrder", "(I)I"⟩, 8) := ⟨⟨by decide +kernel, by decide +kernel⟩, List.mem_of_getElem? (i := 240) (by decide +kernel), List.mem_of_getElem? (i := 809) (by decide +kernel), List.mem_of_getElem? (i := 810) (by decide +kernel)⟩
theorem lw_p15 : lw_okq (⟨"UrnHeap$Orders", "fits", "(Ljava/lang/String;)Z"⟩, 8) := ⟨⟨by decide +kernel, by decide +kernel⟩, List.mem_of_getElem? (i := 240) (by decide +kernel), List.mem_of_getElem? (i := 815) (by decide +kernel), List.mem_of_getElem? (i := 816) (by decide +kernel)⟩
def lw_privs_1 : List (MethodName × Nat) := [(⟨"UrnHeap$Hands", "colourOfNew", "(I)I"⟩, 2), (⟨"UrnHeap$Sexton", "markRoots", "()V"⟩, 2), (⟨"UrnHeap$Sexton", "doPartsUntilOver", "(I)I"⟩, 2), (⟨"UrnHeap$Sexton", "sweepNext", "()V"⟩, 2), (⟨"UrnHeap$Sexton", "blackenFirst", "()V"⟩, 2), (⟨"UrnHeap$Sexton", "makeRitesDue", "()Z"⟩, 2), (⟨"UrnHeap$Sexton", "beginSweep", "()V"⟩, 2), (⟨"UrnHeap$Paths", "rootsByRite", "(I)I"⟩, 2), (⟨"UrnHeap$Paths", "reachFrom", "(I)I"⟩, 2), (⟨"UrnHeap$Paths", "targetsOfAll", "(I)I"⟩, 2), (⟨"UrnHeap$Paths", "targets", "(I)I"⟩, 2), (⟨"UrnHeap$Paths", "isHeldBySome", "(II)Z"⟩, 2), (⟨"UrnHeap$Paths", "weighAll", "()V"⟩, 2), (⟨"UrnHeap$Paths", "heavierThan", "(I)I"⟩, 2), (⟨"UrnHeap$Orders", "readOrder", "(I)I"⟩, 8), (⟨"UrnHeap$Orders", "fits", "(Ljava/lang/String;)Z"⟩, 8)]
theorem lw_r1 : ∀ q ∈ lw_privs_1, lw_okq q := List.forall_mem_cons.mpr ⟨lw_p0, List.forall_mem_cons.mpr ⟨lw_p1, List.forall_mem_cons.mpr ⟨lw_p2, List.forall_mem_cons.mpr ⟨lw_p3, List.forall_mem_cons.mpr ⟨lw_p4, List.forall_mem_cons.mpr ⟨lw_p5, List.forall_mem_cons.mpr ⟨lw_p6, List.forall_mem_cons.mpr ⟨lw_p7, List.forall_mem_cons.mpr ⟨lw_p8, List.forall_mem_cons.mpr ⟨lw_p9, List.forall_mem_cons.mpr ⟨lw_p10, List.forall_mem_cons.mpr ⟨lw_p11, List.forall_mem_cons.mpr ⟨lw_p12, List.forall_mem_cons.mpr ⟨lw_p13, List.forall_mem_cons.mpr ⟨lw_p14, List.forall_mem_cons.mpr ⟨lw_p15, fun _ h => absurd h List.not_mem_nil⟩⟩⟩⟩⟩⟩⟩⟩⟩⟩⟩⟩⟩⟩⟩⟩
theorem lw_p16 : lw_okq (⟨"UrnHeap$Orders", "readSign", "(C)I"⟩, 8) := ⟨⟨by decide +kernel, by decide +kernel⟩, List.mem_of_getElem? (i := 240) (by decide +kernel), List.mem_of_getElem? (i := 846) (by decide +kernel), List.mem_of_getElem? (i := 847) (by decide +kernel)⟩
theorem lw_p17 : lw_okq (⟨"UrnHeap$Orders", "valueAt", "(IC)I"⟩, 8) := ⟨⟨by decide +kernel, by decide +kernel⟩, List.mem_of_getElem? (i := 240) (by decide +kernel), List.mem_of_getElem? (i := 850) (by decide +kernel), List.mem_of_getElem? (i := 851) (by decide +kernel)⟩
theorem lw_p18 : lw_okq (⟨"UrnHeap$Orders", "isOrderEnd", "()Z"⟩, 8) := ⟨⟨by decide +kernel, by decide +kernel⟩, List.mem_of_getElem? (i := 240) (by decide +kernel), List.mem_of_getElem? (i := 867) (by decide +kernel), List.mem_of_getElem? (i := 868) (by decide +kernel)⟩
theorem lw_p19 : lw_okq (⟨"UrnHeap$Orders", "keep", "(LUrnHeap$Kind;)V"⟩, 8) := ⟨⟨by decide +kernel, by decide +kernel⟩, List.mem_of_getElem? (i := 240) (by decide +kernel), List.mem_of_getElem? (i := 871) (by decide +kernel), List.mem_of_getElem? (i := 872) (by decide +kernel)⟩
theorem lw_p20 : lw_okq (⟨"UrnHeap", "carryOut", "(I)I"⟩, 8) := ⟨⟨by decide +kernel, by decide +kernel⟩, List.mem_of_getElem? (i := 28) (by decide +kernel), List.mem_of_getElem? (i := 900) (by decide +kernel), List.mem_of_getElem? (i := 901) (by decide +kernel)⟩
theorem lw_p21 : lw_okq (⟨"UrnHeap$Line", "writeRite", "(LUrnHeap$Heap;I)V"⟩, 1) := ⟨⟨by decide +kernel, by decide +kernel⟩, List.mem_of_getElem? (i := 310) (by decide +kernel), List.mem_of_getElem? (i := 965) (by decide +kernel), List.mem_of_getElem? (i := 966) (by decide +kernel)⟩
theorem lw_p22 : lw_okq (⟨"UrnHeap$Line", "writeTarget", "(I)V"⟩, 1) := ⟨⟨by decide +kernel, by decide +kernel⟩, List.mem_of_getElem? (i := 310) (by decide +kernel), List.mem_of_getElem? (i := 972) (by decide +kernel), List.mem_of_getElem? (i := 973) (by decide +kernel)⟩
theorem lw_p23 : lw_okq (⟨"UrnHeap$Heap", "areUrns", "([I)Z"⟩, 17) := ⟨⟨by decide +kernel, by decide +kernel⟩, List.mem_of_getElem? (i := 36) (by decide +kernel), List.mem_of_getElem? (i := 1031) (by decide +kernel), List.mem_of_getElem? (i := 1032) (by decide +kernel)⟩
theorem lw_p24 : lw_okq (⟨"UrnHeap$Heap", "hasBlackToWhite", "()Z"⟩, 17) := ⟨⟨by decide +kernel, by decide +kernel⟩, List.mem_of_getElem? (i := 36) (by decide +kernel), List.mem_of_getElem? (i := 1035) (by decide +kernel), List.mem_of_getElem? (i := 1036) (by decide +kernel)⟩
theorem lw_p25 : lw_okq (⟨"UrnHeapModel", "empties", "(I)V"⟩, 20) := ⟨⟨by decide +kernel, by decide +kernel⟩, List.mem_of_getElem? (i := 1084) (by decide +kernel), List.mem_of_getElem? (i := 1090) (by decide +kernel), List.mem_of_getElem? (i := 1091) (by decide +kernel)⟩
theorem lw_p26 : lw_okq (⟨"UrnHeapModel", "remembers", "()V"⟩, 20) := ⟨⟨by decide +kernel, by decide +kernel⟩, List.mem_of_getElem? (i := 1084) (by decide +kernel), List.mem_of_getElem? (i := 1162) (by decide +kernel), List.mem_of_getElem? (i := 1163) (by decide +kernel)⟩
theorem lw_p27 : lw_okq (⟨"UrnHeapModel", "makes", "(Z)I"⟩, 20) := ⟨⟨by decide +kernel, by decide +kernel⟩, List.mem_of_getElem? (i := 1084) (by decide +kernel), List.mem_of_getElem? (i := 1166) (by decide +kernel), List.mem_of_getElem? (i := 1167) (by decide +kernel)⟩
theorem lw_p28 : lw_okq (⟨"UrnHeapModel", "refused", "(II)I"⟩, 20) := ⟨⟨by decide +kernel, by decide +kernel⟩, List.mem_of_getElem? (i := 1084) (by decide +kernel), List.mem_of_getElem? (i := 1170) (by decide +kernel), List.mem_of_getElem? (i := 1171) (by decide +kernel)⟩
theorem lw_p29 : lw_okq (⟨"UrnHeapModel", "done", "(I)I"⟩, 20) := ⟨⟨by decide +kernel, by decide +kernel⟩, List.mem_of_getElem? (i := 1084) (by decide +kernel), List.mem_of_getElem? (i := 1174) (by decide +kernel), List.mem_of_getElem? (i := 1175) (by decide +kernel)⟩
theorem lw_p30 : lw_okq (⟨"UrnHeapModel", "ends", "(I)I"⟩, 20) := ⟨⟨by decide +kernel, by decide +kernel⟩, List.mem_of_getElem? (i := 1084) (by decide +kernel), List.mem_of_getElem? (i := 1178) (by decide +kernel), List.mem_of_getElem? (i := 1179) (by decide +kernel)⟩
theorem lw_p31 : lw_okq (⟨"UrnHeapModel", "changed", "(I)I"⟩, 20) := ⟨⟨by decide +kernel, by decide +kernel⟩, List.mem_of_getElem? (i := 1084) (by decide +kernel), List.mem_of_getElem? (i := 1182) (by decide +kernel), List.mem_of_getElem? (i := 1183) (by decide +kernel)⟩
def lw_privs_2 : List (MethodName × Nat) := [(⟨"UrnHeap$Orders", "readSign", "(C)I"⟩, 8), (⟨"UrnHeap$Orders", "valueAt", "(IC)I"⟩, 8), (⟨"UrnHeap$Orders", "isOrderEnd", "()Z"⟩, 8), (⟨"UrnHeap$Orders", "keep", "(LUrnHeap$Kind;)V"⟩, 8), (⟨"UrnHeap", "carryOut", "(I)I"⟩, 8), (⟨"UrnHeap$Line", "writeRite", "(LUrnHeap$Heap;I)V"⟩, 1), (⟨"UrnHeap$Line", "writeTarget", "(I)V"⟩, 1), (⟨"UrnHeap$Heap", "areUrns", "([I)Z"⟩, 17), (⟨"UrnHeap$Heap", "hasBlackToWhite", "()Z"⟩, 17), (⟨"UrnHeapModel", "empties", "(I)V"⟩, 20), (⟨"UrnHeapModel", "remembers", "()V"⟩, 20), (⟨"UrnHeapModel", "makes", "(Z)I"⟩, 20), (⟨"UrnHeapModel", "refused", "(II)I"⟩, 20), (⟨"UrnHeapModel", "done", "(I)I"⟩, 20), (⟨"UrnHeapModel", "ends", "(I)I"⟩, 20), (⟨"UrnHeapModel", "changed", "(I)I"⟩, 20)]
theorem lw_r2 : ∀ q ∈ lw_privs_2, lw_okq q := List.forall_mem_cons.mpr ⟨lw_p16, List.forall_mem_cons.mpr ⟨lw_p17, List.forall_mem_cons.mpr ⟨lw_p18, List.forall_mem_cons.mpr ⟨lw_p19, List.forall_mem_cons.mpr ⟨lw_p20, List.forall_mem_cons.mpr ⟨lw_p21, List.forall_mem_cons.mpr ⟨lw_p22, List.forall_mem_cons.mpr ⟨lw_p23, List.forall_mem_cons.mpr ⟨lw_p24, List.forall_mem_cons.mpr ⟨lw_p25, List.forall_mem_cons.mpr ⟨lw_p26, List.forall_mem_cons.mpr ⟨lw_p27, List.forall_mem_cons.mpr ⟨lw_p28, List.forall_mem_cons.mpr ⟨lw_p29, List.forall_mem_cons.mpr ⟨lw_p30, List.forall_mem_cons.mpr ⟨lw_p31, fun _ h => absurd h List.not_mem_nil⟩⟩⟩⟩⟩⟩⟩⟩⟩⟩⟩⟩⟩⟩⟩⟩
theorem lw_p32 : lw_okq (⟨"UrnHeapModel", "ties", "(III)I"⟩, 20) := ⟨⟨by decide +kernel, by decide +kernel⟩, List.mem_of_getElem? (i := 1084) (by decide +kernel), List.mem_of_getElem? (i := 1190) (by decide +kernel), List.mem_of_getElem? (i := 1191) (by decide +kernel)⟩
theorem lw_p33 : lw_okq (⟨"UrnHeapModel", "isUrn", "(I)Z"⟩, 20) := ⟨⟨by decide +kernel, by decide +kernel⟩, List.mem_of_getElem? (i := 1084) (by decide +kernel), List.mem_of_getElem? (i := 1194) (by decide +kernel), List.mem_of_getElem? (i := 1195) (by decide +kernel)⟩
theorem lw_p34 : lw_okq (⟨"UrnHeapModel", "isDoomed", "(I)Z"⟩, 20) := ⟨⟨by decide +kernel, by decide +kernel⟩, List.mem_of_getElem? (i := 1084) (by decide +kernel), List.mem_of_getElem? (i := 1201) (by decide +kernel), List.mem_of_getElem? (i := 1202) (by decide +kernel)⟩
theorem lw_p35 : lw_okq (⟨"UrnHeapModel", "greysIfWhite", "(I)V"⟩, 20) := ⟨⟨by decide +kernel, by decide +kernel⟩, List.mem_of_getElem? (i := 1084) (by decide +kernel), List.mem_of_getElem? (i := 1205) (by decide +kernel), List.mem_of_getElem? (i := 1206) (by decide +kernel)⟩
theorem lw_p36 : lw_okq (⟨"UrnHeapModel", "greys", "(I)V"⟩, 20) := ⟨⟨by decide +kernel, by decide +kernel⟩, List.mem_of_getElem? (i := 1084) (by decide +kernel), List.mem_of_getElem? (i := 1209) (by decide +kernel), List.mem_of_getElem? (i := 1210) (by decide +kernel)⟩
theorem lw_p37 : lw_okq (⟨"UrnHeapModel", "unties", "(II)I"⟩, 20) := ⟨⟨by decide +kernel, by decide +kernel⟩, List.mem_of_getElem? (i := 1084) (by decide +kernel), List.mem_of_getElem? (i := 1217) (by decide +kernel), List.mem_of_getElem? (i := 1218) (by decide +kernel)⟩
theorem lw_p38 : lw_okq (⟨"UrnHeapModel", "weakens", "(II)I"⟩, 20) := ⟨⟨by decide +kernel, by decide +kernel⟩, List.mem_of_getElem? (i := 1084) (by decide +kernel), List.mem_of_getElem? (i := 1225) (by decide +kernel), List.mem_of_getElem? (i := 1226) (by decide +kernel)⟩
theorem lw_p39 : lw_okq (⟨"UrnHeapModel", "names", "(II)I"⟩, 20) := ⟨⟨by decide +kernel, by decide +kernel⟩, List.mem_of_getElem? (i := 1084) (by decide +kernel), List.mem_of_getElem? (i := 1237) (by decide +kernel), List.mem_of_getElem? (i := 1238) (by decide +kernel)⟩
theorem lw_p40 : lw_okq (⟨"UrnHeapModel", "drops", "(I)I"⟩, 20) := ⟨⟨by decide +kernel, by decide +kernel⟩, List.mem_of_getElem? (i := 1084) (by decide +kernel), List.mem_of_getElem? (i := 1245) (by decide +kernel), List.mem_of_getElem? (i := 1246) (by decide +kernel)⟩
theorem lw_p41 : lw_okq (⟨"UrnHeapModel", "holds", "(I)I"⟩, 20) := ⟨⟨by decide +kernel, by decide +kernel⟩, List.mem_of_getElem? (i := 1084) (by decide +kernel), List.mem_of_getElem? (i := 1253) (by decide +kernel), List.mem_of_getElem? (i := 1254) (by decide +kernel)⟩
theorem lw_p42 : lw_okq (⟨"UrnHeapModel", "held", "(I)I"⟩, 20) := ⟨⟨by decide +kernel, by decide +kernel⟩, List.mem_of_getElem? (i := 1084) (by decide +kernel), List.mem_of_getElem? (i := 1257) (by decide +kernel), List.mem_of_getElem? (i := 1258) (by decide +kernel)⟩
theorem lw_p43 : lw_okq (⟨"UrnHeapModel", "beginsRound", "()I"⟩, 20) := ⟨⟨by decide +kernel, by decide +kernel⟩, List.mem_of_getElem? (i := 1084) (by decide +kernel), List.mem_of_getElem? (i := 1273) (by decide +kernel), List.mem_of_getElem? (i := 1274) (by decide +kernel)⟩
theorem lw_p44 : lw_okq (⟨"UrnHeapModel", "stepsOn", "(I)I"⟩, 20) := ⟨⟨by decide +kernel, by decide +kernel⟩, List.mem_of_getElem? (i := 1084) (by decide +kernel), List.mem_of_getElem? (i := 1281) (by decide +kernel), List.mem_of_getElem? (i := 1282) (by decide +kernel)⟩
theorem lw_p45 : lw_okq (⟨"UrnHeapModel", "partsOn", "(I)I"⟩, 20) := ⟨⟨by decide +kernel, by decide +kernel⟩, List.mem_of_getElem? (i := 1084) (by decide +kernel), List.mem_of_getElem? (i := 1285) (by decide +kernel), List.mem_of_getElem? (i := 1286) (by decide +kernel)⟩
theorem lw_p46 : lw_okq (⟨"UrnHeapModel", "part", "()V"⟩, 20) := ⟨⟨by decide +kernel, by decide +kernel⟩, List.mem_of_getElem? (i := 1084) (by decide +kernel), List.mem_of_getElem? (i := 1289) (by decide +kernel), List.mem_of_getElem? (i := 1290) (by decide +kernel)⟩
theorem lw_p47 : lw_okq (⟨"UrnHeapModel", "sweeps", "()V"⟩, 20) := ⟨⟨by decide +kernel, by decide +kernel⟩, List.mem_of_getElem? (i := 1084) (by decide +kernel), List.mem_of_getElem? (i := 1293) (by decide +kernel), List.mem_of_getElem? (i := 1294) (by decide +kernel)⟩
def lw_privs_3 : List (MethodName × Nat) := [(⟨"UrnHeapModel", "ties", "(III)I"⟩, 20), (⟨"UrnHeapModel", "isUrn", "(I)Z"⟩, 20), (⟨"UrnHeapModel", "isDoomed", "(I)Z"⟩, 20), (⟨"UrnHeapModel", "greysIfWhite", "(I)V"⟩, 20), (⟨"UrnHeapModel", "greys", "(I)V"⟩, 20), (⟨"UrnHeapModel", "unties", "(II)I"⟩, 20), (⟨"UrnHeapModel", "weakens", "(II)I"⟩, 20), (⟨"UrnHeapModel", "names", "(II)I"⟩, 20), (⟨"UrnHeapModel", "drops", "(I)I"⟩, 20), (⟨"UrnHeapModel", "holds", "(I)I"⟩, 20), (⟨"UrnHeapModel", "held", "(I)I"⟩, 20), (⟨"UrnHeapModel", "beginsRound", "()I"⟩, 20), (⟨"UrnHeapModel", "stepsOn", "(I)I"⟩, 20), (⟨"UrnHeapModel", "partsOn", "(I)I"⟩, 20), (⟨"UrnHeapModel", "part", "()V"⟩, 20), (⟨"UrnHeapModel", "sweeps", "()V"⟩, 20)]
theorem lw_r3 : ∀ q ∈ lw_privs_3, lw_okq q := List.forall_mem_cons.mpr ⟨lw_p32, List.forall_mem_cons.mpr ⟨lw_p33, List.forall_mem_cons.mpr ⟨lw_p34, List.forall_mem_cons.mpr ⟨lw_p35, List.forall_mem_cons.mpr ⟨lw_p36, List.forall_mem_cons.mpr ⟨lw_p37, List.forall_mem_cons.mpr ⟨lw_p38, List.forall_mem_cons.mpr ⟨lw_p39, List.forall_mem_cons.mpr ⟨lw_p40, List.forall_mem_cons.mpr ⟨lw_p41, List.forall_mem_cons.mpr ⟨lw_p42, List.forall_mem_cons.mpr ⟨lw_p43, List.forall_mem_cons.mpr ⟨lw_p44, List.forall_mem_cons.mpr ⟨lw_p45, List.forall_mem_cons.mpr ⟨lw_p46, List.forall_mem_cons.mpr ⟨lw_p47, fun _ h => absurd h List.not_mem_nil⟩⟩⟩⟩⟩⟩⟩⟩⟩⟩⟩⟩⟩⟩⟩⟩
theorem lw_p48 : lw_okq (⟨"UrnHeapModel", "frees", "(I)V"⟩, 20) := ⟨⟨by decide +kernel, by decide +kernel⟩, List.mem_of_getElem? (i := 1084) (by decide +kernel), List.mem_of_getElem? (i := 1297) (by decide +kernel), List.mem_of_getElem? (i := 1298) (by decide +kernel)⟩
theorem lw_p49 : lw_okq (⟨"UrnHeapModel", "blackens", "()V"⟩, 20) := ⟨⟨by decide +kernel, by decide +kernel⟩, List.mem_of_getElem? (i := 1084) (by decide +kernel), List.mem_of_getElem? (i := 1301) (by decide +kernel), List.mem_of_getElem? (i := 1302) (by decide +kernel)⟩
theorem lw_p50 : lw_okq (⟨"UrnHeapModel", "becomeDue", "()Z"⟩, 20) := ⟨⟨by decide +kernel, by decide +kernel⟩, List.mem_of_getElem? (i := 1084) (by decide +kernel), List.mem_of_getElem? (i := 1305) (by decide +kernel), List.mem_of_getElem? (i := 1306) (by decide +kernel)⟩
theorem lw_p51 : lw_okq (⟨"UrnHeapModel", "cutsWeak", "()V"⟩, 20) := ⟨⟨by decide +kernel, by decide +kernel⟩, List.mem_of_getElem? (i := 1084) (by decide +kernel), List.mem_of_getElem? (i := 1309) (by decide +kernel), List.mem_of_getElem? (i := 1310) (by decide +kernel)⟩
theorem lw_p52 : lw_okq (⟨"UrnHeapModel", "wholeRound", "()I"⟩, 20) := ⟨⟨by decide +kernel, by decide +kernel⟩, List.mem_of_getElem? (i := 1084) (by decide +kernel), List.mem_of_getElem? (i := 1317) (by decide +kernel), List.mem_of_getElem? (i := 1318) (by decide +kernel)⟩
theorem lw_p53 : lw_okq (⟨"UrnHeapModel", "doesRite", "()I"⟩, 20) := ⟨⟨by decide +kernel, by decide +kernel⟩, List.mem_of_getElem? (i := 1084) (by decide +kernel), List.mem_of_getElem? (i := 1325) (by decide +kernel), List.mem_of_getElem? (i := 1326) (by decide +kernel)⟩
theorem lw_p54 : lw_okq (⟨"UrnHeapModel", "measures", "(IZ)V"⟩, 20) := ⟨⟨by decide +kernel, by decide +kernel⟩, List.mem_of_getElem? (i := 1084) (by decide +kernel), List.mem_of_getElem? (i := 1345) (by decide +kernel), List.mem_of_getElem? (i := 1346) (by decide +kernel)⟩
theorem lw_p55 : lw_okq (⟨"UrnHeapModel", "nears", "(II)V"⟩, 20) := ⟨⟨by decide +kernel, by decide +kernel⟩, List.mem_of_getElem? (i := 1084) (by decide +kernel), List.mem_of_getElem? (i := 1349) (by decide +kernel), List.mem_of_getElem? (i := 1350) (by decide +kernel)⟩
theorem lw_p56 : lw_okq (⟨"UrnHeapModel", "reached", "()I"⟩, 20) := ⟨⟨by decide +kernel, by decide +kernel⟩, List.mem_of_getElem? (i := 1084) (by decide +kernel), List.mem_of_getElem? (i := 1353) (by decide +kernel), List.mem_of_getElem? (i := 1354) (by decide +kernel)⟩
theorem lw_p57 : lw_okq (⟨"UrnHeapModel", "urns", "()I"⟩, 20) := ⟨⟨by decide +kernel, by decide +kernel⟩, List.mem_of_getElem? (i := 1084) (by decide +kernel), List.mem_of_getElem? (i := 1378) (by decide +kernel), List.mem_of_getElem? (i := 1379) (by decide +kernel)⟩
theorem lw_p58 : lw_okq (⟨"UrnHeapModel", "isAhead", "(II)Z"⟩, 20) := ⟨⟨by decide +kernel, by decide +kernel⟩, List.mem_of_getElem? (i := 1084) (by decide +kernel), List.mem_of_getElem? (i := 1386) (by decide +kernel), List.mem_of_getElem? (i := 1387) (by decide +kernel)⟩
theorem lw_p59 : lw_okq (⟨"UrnHeapModel", "readsOne", "()V"⟩, 20) := ⟨⟨by decide +kernel, by decide +kernel⟩, List.mem_of_getElem? (i := 1084) (by decide +kernel), List.mem_of_getElem? (i := 1398) (by decide +kernel), List.mem_of_getElem? (i := 1399) (by decide +kernel)⟩
theorem lw_p60 : lw_okq (⟨"UrnHeapModel", "here", "()I"⟩, 20) := ⟨⟨by decide +kernel, by decide +kernel⟩, List.mem_of_getElem? (i := 1084) (by decide +kernel), List.mem_of_getElem? (i := 1402) (by decide +kernel), List.mem_of_getElem? (i := 1403) (by decide +kernel)⟩
theorem lw_p61 : lw_okq (⟨"UrnHeapModel", "next", "()I"⟩, 20) := ⟨⟨by decide +kernel, by decide +kernel⟩, List.mem_of_getElem? (i := 1084) (by decide +kernel), List.mem_of_getElem? (i := 1406) (by decide +kernel), List.mem_of_getElem? (i := 1407) (by decide +kernel)⟩
theorem lw_p62 : lw_okq (⟨"UrnHeapModel", "tells", "(II)V"⟩, 20) := ⟨⟨by decide +kernel, by decide +kernel⟩, List.mem_of_getElem? (i := 1084) (by decide +kernel), List.mem_of_getElem? (i := 1410) (by decide +kernel), List.mem_of_getElem? (i := 1411) (by decide +kernel)⟩
theorem lw_p63 : lw_okq (⟨"UrnHeapModel", "word", "(Ljava/lang/String;)V"⟩, 20) := ⟨⟨by decide +kernel, by decide +kernel⟩, List.mem_of_getElem? (i := 1084) (by decide +kernel), List.mem_of_getElem? (i := 1415) (by decide +kernel), List.mem_of_getElem? (i := 1416) (by decide +kernel)⟩
def lw_privs_4 : List (MethodName × Nat) := [(⟨"UrnHeapModel", "frees", "(I)V"⟩, 20), (⟨"UrnHeapModel", "blackens", "()V"⟩, 20), (⟨"UrnHeapModel", "becomeDue", "()Z"⟩, 20), (⟨"UrnHeapModel", "cutsWeak", "()V"⟩, 20), (⟨"UrnHeapModel", "wholeRound", "()I"⟩, 20), (⟨"UrnHeapModel", "doesRite", "()I"⟩, 20), (⟨"UrnHeapModel", "measures", "(IZ)V"⟩, 20), (⟨"UrnHeapModel", "nears", "(II)V"⟩, 20), (⟨"UrnHeapModel", "reached", "()I"⟩, 20), (⟨"UrnHeapModel", "urns", "()I"⟩, 20), (⟨"UrnHeapModel", "isAhead", "(II)Z"⟩, 20), (⟨"UrnHeapModel", "readsOne", "()V"⟩, 20), (⟨"UrnHeapModel", "here", "()I"⟩, 20), (⟨"UrnHeapModel", "next", "()I"⟩, 20), (⟨"UrnHeapModel", "tells", "(II)V"⟩, 20), (⟨"UrnHeapModel", "word", "(Ljava/lang/String;)V"⟩, 20)]
theorem lw_r4 : ∀ q ∈ lw_privs_4, lw_okq q := List.forall_mem_cons.mpr ⟨lw_p48, List.forall_mem_cons.mpr ⟨lw_p49, List.forall_mem_cons.mpr ⟨lw_p50, List.forall_mem_cons.mpr ⟨lw_p51, List.forall_mem_cons.mpr ⟨lw_p52, List.forall_mem_cons.mpr ⟨lw_p53, List.forall_mem_cons.mpr ⟨lw_p54, List.forall_mem_cons.mpr ⟨lw_p55, List.forall_mem_cons.mpr ⟨lw_p56, List.forall_mem_cons.mpr ⟨lw_p57, List.forall_mem_cons.mpr ⟨lw_p58, List.forall_mem_cons.mpr ⟨lw_p59, List.forall_mem_cons.mpr ⟨lw_p60, List.forall_mem_cons.mpr ⟨lw_p61, List.forall_mem_cons.mpr ⟨lw_p62, List.forall_mem_cons.mpr ⟨lw_p63, fun _ h => absurd h List.not_mem_nil⟩⟩⟩⟩⟩⟩⟩⟩⟩⟩⟩⟩⟩⟩⟩⟩
theorem lw_p64 : lw_okq (⟨"UrnHeapModel", "slotOf", "(Ljava/lang/String;)V"⟩, 20) := ⟨⟨by decide +kernel, by decide +kernel⟩, List.mem_of_getElem? (i := 1084) (by decide +kernel), List.mem_of_getElem? (i := 1422) (by decide +kernel), List.mem_of_getElem? (i := 1423) (by decide +kernel)⟩
theorem lw_p65 : lw_okq (⟨"UrnHeapModel", "number", "(II)V"⟩, 20) := ⟨⟨by decide +kernel, by decide +kernel⟩, List.mem_of_getElem? (i := 1084) (by decide +kernel), List.mem_of_getElem? (i := 1426) (by decide +kernel), List.mem_of_getElem? (i := 1427) (by decide +kernel)⟩
theorem lw_p66 : lw_okq (⟨"UrnHeapModel", "letter", "(I)V"⟩, 20) := ⟨⟨by decide +kernel, by decide +kernel⟩, List.mem_of_getElem? (i := 1084) (by decide +kernel), List.mem_of_getElem? (i := 1434) (by decide +kernel), List.mem_of_getElem? (i := 1435) (by decide +kernel)⟩
theorem lw_p67 : lw_okq (⟨"UrnHeapModel", "does", "(I)I"⟩, 20) := ⟨⟨by decide +kernel, by decide +kernel⟩, List.mem_of_getElem? (i := 1084) (by decide +kernel), List.mem_of_getElem? (i := 1443) (by decide +kernel), List.mem_of_getElem? (i := 1444) (by decide +kernel)⟩
theorem lw_p68 : lw_okq (⟨"UrnHeapModel", "writesNumber", "(I)V"⟩, 20) := ⟨⟨by decide +kernel, by decide +kernel⟩, List.mem_of_getElem? (i := 1084) (by decide +kernel), List.mem_of_getElem? (i := 1451) (by decide +kernel), List.mem_of_getElem? (i := 1452) (by decide +kernel)⟩
theorem lw_p69 : lw_okq (⟨"UrnHeapModel", "writes", "(I)V"⟩, 20) := ⟨⟨by decide +kernel, by decide +kernel⟩, List.mem_of_getElem? (i := 1084) (by decide +kernel), List.mem_of_getElem? (i := 1455) (by decide +kernel), List.mem_of_getElem? (i := 1456) (by decide +kernel)⟩
theorem lw_p70 : lw_okq (⟨"UrnHeapModel", "manyThat", "(I)I"⟩, 20) := ⟨⟨by decide +kernel, by decide +kernel⟩, List.mem_of_getElem? (i := 1084) (by decide +kernel), List.mem_of_getElem? (i := 1475) (by decide +kernel), List.mem_of_getElem? (i := 1476) (by decide +kernel)⟩
theorem lw_p71 : lw_okq (⟨"UrnHeapModel", "manyUrns", "()I"⟩, 20) := ⟨⟨by decide +kernel, by decide +kernel⟩, List.mem_of_getElem? (i := 1084) (by decide +kernel), List.mem_of_getElem? (i := 1479) (by decide +kernel), List.mem_of_getElem? (i := 1480) (by decide +kernel)⟩
theorem lw_p72 : lw_okq (⟨"UrnHeapModel", "namesUsed", "()I"⟩, 20) := ⟨⟨by decide +kernel, by decide +kernel⟩, List.mem_of_getElem? (i := 1084) (by decide +kernel), List.mem_of_getElem? (i := 1483) (by decide +kernel), List.mem_of_getElem? (i := 1484) (by decide +kernel)⟩
theorem lw_p73 : lw_okq (⟨"UrnHeapModel", "isFit", "(I)Z"⟩, 20) := ⟨⟨by decide +kernel, by decide +kernel⟩, List.mem_of_getElem? (i := 1084) (by decide +kernel), List.mem_of_getElem? (i := 1491) (by decide +kernel), List.mem_of_getElem? (i := 1492) (by decide +kernel)⟩
theorem lw_p74 : lw_okq (⟨"UrnHeapModel", "isThere", "(I)Z"⟩, 20) := ⟨⟨by decide +kernel, by decide +kernel⟩, List.mem_of_getElem? (i := 1084) (by decide +kernel), List.mem_of_getElem? (i := 1495) (by decide +kernel), List.mem_of_getElem? (i := 1496) (by decide +kernel)⟩
def lw_privs_5 : List (MethodName × Nat) := [(⟨"UrnHeapModel", "slotOf", "(Ljava/lang/String;)V"⟩, 20), (⟨"UrnHeapModel", "number", "(II)V"⟩, 20), (⟨"UrnHeapModel", "letter", "(I)V"⟩, 20), (⟨"UrnHeapModel", "does", "(I)I"⟩, 20), (⟨"UrnHeapModel", "writesNumber", "(I)V"⟩, 20), (⟨"UrnHeapModel", "writes", "(I)V"⟩, 20), (⟨"UrnHeapModel", "manyThat", "(I)I"⟩, 20), (⟨"UrnHeapModel", "manyUrns", "()I"⟩, 20), (⟨"UrnHeapModel", "namesUsed", "()I"⟩, 20), (⟨"UrnHeapModel", "isFit", "(I)Z"⟩, 20), (⟨"UrnHeapModel", "isThere", "(I)Z"⟩, 20)]
theorem lw_r5 : ∀ q ∈ lw_privs_5, lw_okq q := List.forall_mem_cons.mpr ⟨lw_p64, List.forall_mem_cons.mpr ⟨lw_p65, List.forall_mem_cons.mpr ⟨lw_p66, List.forall_mem_cons.mpr ⟨lw_p67, List.forall_mem_cons.mpr ⟨lw_p68, List.forall_mem_cons.mpr ⟨lw_p69, List.forall_mem_cons.mpr ⟨lw_p70, List.forall_mem_cons.mpr ⟨lw_p71, List.forall_mem_cons.mpr ⟨lw_p72, List.forall_mem_cons.mpr ⟨lw_p73, List.forall_mem_cons.mpr ⟨lw_p74, fun _ h => absurd h List.not_mem_nil⟩⟩⟩⟩⟩⟩⟩⟩⟩⟩⟩
def lw_privs : List (MethodName × Nat) := lw_privs_1 ++ (lw_privs_2 ++ (lw_privs_3 ++ (lw_privs_4 ++ (lw_privs_5))))
def lw_tbl : List Cond := k2_sels lw_privs ++ tables_1
theorem lw_privs_ok : ∀ q ∈ lw_privs, lw_okq q := by
  show ∀ q ∈ lw_privs_1 ++ (lw_privs_2 ++ (lw_privs_3 ++ (lw_privs_4 ++ (lw_privs_5)))), lw_okq q
  exact List.forall_mem_append.mpr ⟨lw_r1, List.forall_mem_append.mpr ⟨lw_r2, List.forall_mem_append.mpr ⟨lw_r3, List.forall_mem_append.mpr ⟨lw_r4, lw_r5⟩⟩⟩⟩
/-- the streams that the claim lets the run draw from -/
abbrev lw_cs : List Choice := [Jvm.Choice.named "NaN.bits"]
theorem lw_bits : nanBits ∈ lw_cs := by first | decide | exact List.mem_cons_self | simp [lw_cs, nanBits]
-- ===== end of PART A; then your names; then what follows =====
end
section
def RX0 : String := "UrnHeap$1"
def TX0 : u_T := fun k => match k with
  | _ => ("", "", "", false)
def tyX0 : Nat → FieldType := fun k => match k with
  | _ => .int
abbrev wsX00 : List Cond := u_ws "UrnHeap$1" TX0 0
theorem nmX0 : ∀ a, a < 0 → ∀ b, b < 0 → a ≠ b → (TX0 a).2.1 ≠ (TX0 b).2.1 := by decide +kernel
theorem tyX0_ok : ∀ k, k < 0 → parseFieldDescriptor (TX0 k).2.2.1 = some (tyX0 k) := by decide +kernel
def RX1 : String := "UrnHeap$Hands"
def TX1 : u_T := fun k => match k with
  | 0 => ("UrnHeap$Hands", "heap", "LUrnHeap$Heap;", true)
  | _ => ("UrnHeap$Hands", "refusals", "LUrnHeap$Refusals;", true)
def tyX1 : Nat → FieldType := fun k => match k with
  | 0 => .object "UrnHeap$Heap"
  | _ => .object "UrnHeap$Refusals"
abbrev wsX10 : List Cond := u_ws "UrnHeap$Hands" TX1 2
theorem nmX1 : ∀ a, a < 2 → ∀ b, b < 2 → a ≠ b → (TX1 a).2.1 ≠ (TX1 b).2.1 := by decide +kernel
theorem tyX1_ok : ∀ k, k < 2 → parseFieldDescriptor (TX1 k).2.2.1 = some (tyX1 k) := by decide +kernel
abbrev cX1_init : ByteArray := prog_3_method_1_code
def yX1_init : MethodName := ⟨"UrnHeap$Hands", "<init>", "(LUrnHeap$Heap;LUrnHeap$Refusals;)V"⟩
abbrev cX1_makeUrn : ByteArray := prog_3_method_2_code
def yX1_makeUrn : MethodName := ⟨"UrnHeap$Hands", "makeUrn", "(Z)I"⟩
abbrev cX1_colourOfNew : ByteArray := prog_3_method_3_code
def yX1_colourOfNew : MethodName := ⟨"UrnHeap$Hands", "colourOfNew", "(I)I"⟩
abbrev cX1_tieThread : ByteArray := prog_3_method_4_code
def yX1_tieThread : MethodName := ⟨"UrnHeap$Hands", "tieThread", "(III)I"⟩
abbrev cX1_takeThread : ByteArray := prog_3_method_5_code
def yX1_takeThread : MethodName := ⟨"UrnHeap$Hands", "takeThread", "(II)I"⟩
abbrev cX1_tieWeak : ByteArray := prog_3_method_6_code
def yX1_tieWeak : MethodName := ⟨"UrnHeap$Hands", "tieWeak", "(II)I"⟩
abbrev cX1_takeWeak : ByteArray := prog_3_method_7_code
def yX1_takeWeak : MethodName := ⟨"UrnHeap$Hands", "takeWeak", "(I)I"⟩
abbrev cX1_giveName : ByteArray := prog_3_method_8_code
def yX1_giveName : MethodName := ⟨"UrnHeap$Hands", "giveName", "(II)I"⟩
abbrev cX1_takeName : ByteArray := prog_3_method_9_code
def yX1_takeName : MethodName := ⟨"UrnHeap$Hands", "takeName", "(I)I"⟩
def RX2 : String := "UrnHeap$Heap"
def TX2 : u_T := fun k => match k with
  | 0 => ("UrnHeap$Heap", "threads", "[I", true)
  | 1 => ("UrnHeap$Heap", "weaks", "[I", true)
  | 2 => ("UrnHeap$Heap", "rites", "[I", true)
  | 3 => ("UrnHeap$Heap", "colours", "[I", true)
  | 4 => ("UrnHeap$Heap", "madeIn", "[I", true)
  | 5 => ("UrnHeap$Heap", "names", "[I", true)
  | 6 => ("UrnHeap$Heap", "late", "[I", true)
  | 7 => ("UrnHeap$Heap", "greys", "LUrnHeap$Row;", true)
  | 8 => ("UrnHeap$Heap", "dues", "LUrnHeap$Row;", true)
  | 9 => ("UrnHeap$Heap", "phase", "I", false)
  | 10 => ("UrnHeap$Heap", "nextSwept", "I", false)
  | 11 => ("UrnHeap$Heap", "roundsOver", "I", false)
  | 12 => ("UrnHeap$Heap", "urnsMade", "I", false)
  | 13 => ("UrnHeap$Heap", "urnsFreed", "I", false)
  | 14 => ("UrnHeap$Heap", "ritesDone", "I", false)
  | 15 => ("UrnHeap$Heap", "weaksCut", "I", false)
  | _ => ("UrnHeap$Heap", "partsDone", "I", false)
def tyX2 : Nat → FieldType := fun k => match k with
  | 0 => .array .int
  | 1 => .array .int
  | 2 => .array .int
  | 3 => .array .int
  | 4 => .array .int
  | 5 => .array .int
  | 6 => .array .int
  | 7 => .object "UrnHeap$Row"
  | 8 => .object "UrnHeap$Row"
  | 9 => .int
  | 10 => .int
  | 11 => .int
  | 12 => .int
  | 13 => .int
  | 14 => .int
  | 15 => .int
  | _ => .int
abbrev wsX20 : List Cond := u_ws "UrnHeap$Heap" TX2 17
theorem nmX2 : ∀ a, a < 17 → ∀ b, b < 17 → a ≠ b → (TX2 a).2.1 ≠ (TX2 b).2.1 := by decide +kernel
theorem tyX2_ok : ∀ k, k < 17 → parseFieldDescriptor (TX2 k).2.2.1 = some (tyX2 k) := by decide +kernel
abbrev cX2_init : ByteArray := prog_4_method_1_code
def yX2_init : MethodName := ⟨"UrnHeap$Heap", "<init>", "()V"⟩
abbrev cX2_copyFrom : ByteArray := prog_4_method_2_code
def yX2_copyFrom : MethodName := ⟨"UrnHeap$Heap", "copyFrom", "(LUrnHeap$Heap;)V"⟩
abbrev cX2_hasUrn : ByteArray := prog_4_method_3_code
def yX2_hasUrn : MethodName := ⟨"UrnHeap$Heap", "hasUrn", "(I)Z"⟩
abbrev cX2_isWhite : ByteArray := prog_4_method_4_code
def yX2_isWhite : MethodName := ⟨"UrnHeap$Heap", "isWhite", "(I)Z"⟩
abbrev cX2_isToBeSwept : ByteArray := prog_4_method_5_code
def yX2_isToBeSwept : MethodName := ⟨"UrnHeap$Heap", "isToBeSwept", "(I)Z"⟩
abbrev cX2_target : ByteArray := prog_4_method_6_code
def yX2_target : MethodName := ⟨"UrnHeap$Heap", "target", "(II)I"⟩
abbrev cX2_urns : ByteArray := prog_4_method_7_code
def yX2_urns : MethodName := ⟨"UrnHeap$Heap", "urns", "()I"⟩
abbrev cX2_urnsOf : ByteArray := prog_4_method_8_code
def yX2_urnsOf : MethodName := ⟨"UrnHeap$Heap", "urnsOf", "(I)I"⟩
abbrev cX2_namesInUse : ByteArray := prog_4_method_9_code
def yX2_namesInUse : MethodName := ⟨"UrnHeap$Heap", "namesInUse", "()I"⟩
abbrev cX2_threadsFrom : ByteArray := prog_4_method_10_code
def yX2_threadsFrom : MethodName := ⟨"UrnHeap$Heap", "threadsFrom", "(I)I"⟩
abbrev cX2_holdersOf : ByteArray := prog_4_method_11_code
def yX2_holdersOf : MethodName := ⟨"UrnHeap$Heap", "holdersOf", "(I)I"⟩
abbrev cX2_holdersOfAll : ByteArray := prog_4_method_12_code
def yX2_holdersOfAll : MethodName := ⟨"UrnHeap$Heap", "holdersOfAll", "()I"⟩
abbrev cX2_freedLate : ByteArray := prog_4_method_13_code
def yX2_freedLate : MethodName := ⟨"UrnHeap$Heap", "freedLate", "(I)I"⟩
abbrev cX2_makeGrey : ByteArray := prog_4_method_14_code
def yX2_makeGrey : MethodName := ⟨"UrnHeap$Heap", "makeGrey", "(I)V"⟩
abbrev cX2_makeGreyInRound : ByteArray := prog_4_method_15_code
def yX2_makeGreyInRound : MethodName := ⟨"UrnHeap$Heap", "makeGreyInRound", "(I)V"⟩
abbrev cX2_free : ByteArray := prog_4_method_16_code
def yX2_free : MethodName := ⟨"UrnHeap$Heap", "free", "(I)V"⟩
abbrev cX2_isSound : ByteArray := prog_4_method_17_code
def yX2_isSound : MethodName := ⟨"UrnHeap$Heap", "isSound", "()Z"⟩
abbrev cX2_areUrns : ByteArray := prog_4_method_18_code
def yX2_areUrns : MethodName := ⟨"UrnHeap$Heap", "areUrns", "([I)Z"⟩
abbrev cX2_hasBlackToWhite : ByteArray := prog_4_method_19_code
def yX2_hasBlackToWhite : MethodName := ⟨"UrnHeap$Heap", "hasBlackToWhite", "()Z"⟩
def RX3 : String := "UrnHeap$History"
def TX3 : u_T := fun k => match k with
  | 0 => ("UrnHeap$History", "now", "LUrnHeap$Heap;", true)
  | 1 => ("UrnHeap$History", "past", "[LUrnHeap$Heap;", true)
  | 2 => ("UrnHeap$History", "saved", "LUrnHeap$Heap;", true)
  | 3 => ("UrnHeap$History", "isSaved", "Z", false)
  | 4 => ("UrnHeap$History", "next", "I", false)
  | _ => ("UrnHeap$History", "changes", "I", false)
def tyX3 : Nat → FieldType := fun k => match k with
  | 0 => .object "UrnHeap$Heap"
  | 1 => .array (.object "UrnHeap$Heap")
  | 2 => .object "UrnHeap$Heap"
  | 3 => .boolean
  | 4 => .int
  | _ => .int
abbrev wsX30 : List Cond := u_ws "UrnHeap$History" TX3 6
theorem nmX3 : ∀ a, a < 6 → ∀ b, b < 6 → a ≠ b → (TX3 a).2.1 ≠ (TX3 b).2.1 := by decide +kernel
theorem tyX3_ok : ∀ k, k < 6 → parseFieldDescriptor (TX3 k).2.2.1 = some (tyX3 k) := by decide +kernel
abbrev cX3_init : ByteArray := prog_5_method_1_code
def yX3_init : MethodName := ⟨"UrnHeap$History", "<init>", "(LUrnHeap$Heap;)V"⟩
abbrev cX3_isRefusal : ByteArray := prog_5_method_2_code
def yX3_isRefusal : MethodName := ⟨"UrnHeap$History", "isRefusal", "(I)Z"⟩
abbrev cX3_keepBefore : ByteArray := prog_5_method_3_code
def yX3_keepBefore : MethodName := ⟨"UrnHeap$History", "keepBefore", "()V"⟩
abbrev cX3_takeBack : ByteArray := prog_5_method_4_code
def yX3_takeBack : MethodName := ⟨"UrnHeap$History", "takeBack", "()V"⟩
abbrev cX3_settle : ByteArray := prog_5_method_5_code
def yX3_settle : MethodName := ⟨"UrnHeap$History", "settle", "(I)I"⟩
abbrev cX3_undoLatest : ByteArray := prog_5_method_6_code
def yX3_undoLatest : MethodName := ⟨"UrnHeap$History", "undoLatest", "()I"⟩
abbrev cX3_saveNow : ByteArray := prog_5_method_7_code
def yX3_saveNow : MethodName := ⟨"UrnHeap$History", "saveNow", "()I"⟩
abbrev cX3_restoreSaved : ByteArray := prog_5_method_8_code
def yX3_restoreSaved : MethodName := ⟨"UrnHeap$History", "restoreSaved", "()I"⟩
def RX4 : String := "UrnHeap$Kind"
def TX4 : u_T := fun k => match k with
  | _ => ("", "", "", false)
def tyX4 : Nat → FieldType := fun k => match k with
  | _ => .int
abbrev wsX40 : List Cond := u_ws "UrnHeap$Kind" TX4 0
theorem nmX4 : ∀ a, a < 0 → ∀ b, b < 0 → a ≠ b → (TX4 a).2.1 ≠ (TX4 b).2.1 := by decide +kernel
theorem tyX4_ok : ∀ k, k < 0 → parseFieldDescriptor (TX4 k).2.2.1 = some (tyX4 k) := by decide +kernel
def RX5 : String := "UrnHeap$Line"
def TX5 : u_T := fun k => match k with
  | _ => ("UrnHeap$Line", "signs", "Ljava/lang/StringBuilder;", true)
def tyX5 : Nat → FieldType := fun k => match k with
  | _ => .object "java/lang/StringBuilder"
abbrev wsX50 : List Cond := u_ws "UrnHeap$Line" TX5 1
theorem nmX5 : ∀ a, a < 1 → ∀ b, b < 1 → a ≠ b → (TX5 a).2.1 ≠ (TX5 b).2.1 := by decide +kernel
theorem tyX5_ok : ∀ k, k < 1 → parseFieldDescriptor (TX5 k).2.2.1 = some (tyX5 k) := by decide +kernel
abbrev cX5_init : ByteArray := prog_7_method_1_code
def yX5_init : MethodName := ⟨"UrnHeap$Line", "<init>", "()V"⟩
abbrev cX5_writeUrn : ByteArray := prog_7_method_2_code
def yX5_writeUrn : MethodName := ⟨"UrnHeap$Line", "writeUrn", "(LUrnHeap$Heap;I)I"⟩
abbrev cX5_writeHeap : ByteArray := prog_7_method_3_code
def yX5_writeHeap : MethodName := ⟨"UrnHeap$Line", "writeHeap", "(LUrnHeap$Heap;)I"⟩
abbrev cX5_signAt : ByteArray := prog_7_method_4_code
def yX5_signAt : MethodName := ⟨"UrnHeap$Line", "signAt", "(I)I"⟩
abbrev cX5_writeRite : ByteArray := prog_7_method_5_code
def yX5_writeRite : MethodName := ⟨"UrnHeap$Line", "writeRite", "(LUrnHeap$Heap;I)V"⟩
abbrev cX5_writeTarget : ByteArray := prog_7_method_6_code
def yX5_writeTarget : MethodName := ⟨"UrnHeap$Line", "writeTarget", "(I)V"⟩
abbrev cX5_letterOf : ByteArray := prog_7_method_7_code
def yX5_letterOf : MethodName := ⟨"UrnHeap$Line", "letterOf", "(I)C"⟩
def RX6 : String := "UrnHeap$Orders"
def TX6 : u_T := fun k => match k with
  | 0 => ("UrnHeap$Orders", "text", "Ljava/lang/StringBuilder;", true)
  | 1 => ("UrnHeap$Orders", "kinds", "[LUrnHeap$Kind;", true)
  | 2 => ("UrnHeap$Orders", "firsts", "[I", true)
  | 3 => ("UrnHeap$Orders", "seconds", "[I", true)
  | 4 => ("UrnHeap$Orders", "thirds", "[I", true)
  | 5 => ("UrnHeap$Orders", "count", "I", false)
  | 6 => ("UrnHeap$Orders", "numbers", "[I", true)
  | _ => ("UrnHeap$Orders", "at", "I", false)
def tyX6 : Nat → FieldType := fun k => match k with
  | 0 => .object "java/lang/StringBuilder"
  | 1 => .array (.object "UrnHeap$Kind")
  | 2 => .array .int
  | 3 => .array .int
  | 4 => .array .int
  | 5 => .int
  | 6 => .array .int
  | _ => .int
abbrev wsX60 : List Cond := u_ws "UrnHeap$Orders" TX6 8
theorem nmX6 : ∀ a, a < 8 → ∀ b, b < 8 → a ≠ b → (TX6 a).2.1 ≠ (TX6 b).2.1 := by decide +kernel
theorem tyX6_ok : ∀ k, k < 8 → parseFieldDescriptor (TX6 k).2.2.1 = some (tyX6 k) := by decide +kernel
abbrev cX6_init : ByteArray := prog_8_method_1_code
def yX6_init : MethodName := ⟨"UrnHeap$Orders", "<init>", "()V"⟩
abbrev cX6_addSign : ByteArray := prog_8_method_2_code
def yX6_addSign : MethodName := ⟨"UrnHeap$Orders", "addSign", "(I)I"⟩
abbrev cX6_signs : ByteArray := prog_8_method_3_code
def yX6_signs : MethodName := ⟨"UrnHeap$Orders", "signs", "()I"⟩
abbrev cX6_clearText : ByteArray := prog_8_method_4_code
def yX6_clearText : MethodName := ⟨"UrnHeap$Orders", "clearText", "()V"⟩
abbrev cX6_has : ByteArray := prog_8_method_5_code
def yX6_has : MethodName := ⟨"UrnHeap$Orders", "has", "(I)Z"⟩
abbrev cX6_read : ByteArray := prog_8_method_6_code
def yX6_read : MethodName := ⟨"UrnHeap$Orders", "read", "()I"⟩
abbrev cX6_readOrder : ByteArray := prog_8_method_7_code
def yX6_readOrder : MethodName := ⟨"UrnHeap$Orders", "readOrder", "(I)I"⟩
abbrev cX6_fits : ByteArray := prog_8_method_8_code
def yX6_fits : MethodName := ⟨"UrnHeap$Orders", "fits", "(Ljava/lang/String;)Z"⟩
abbrev cX6_isOrderEnd : ByteArray := prog_8_method_9_code
def yX6_isOrderEnd : MethodName := ⟨"UrnHeap$Orders", "isOrderEnd", "()Z"⟩
abbrev cX6_keep : ByteArray := prog_8_method_10_code
def yX6_keep : MethodName := ⟨"UrnHeap$Orders", "keep", "(LUrnHeap$Kind;)V"⟩
abbrev cX6_isForNumber : ByteArray := prog_8_method_11_code
def yX6_isForNumber : MethodName := ⟨"UrnHeap$Orders", "isForNumber", "(C)Z"⟩
abbrev cX6_readSign : ByteArray := prog_8_method_12_code
def yX6_readSign : MethodName := ⟨"UrnHeap$Orders", "readSign", "(C)I"⟩
abbrev cX6_valueAt : ByteArray := prog_8_method_13_code
def yX6_valueAt : MethodName := ⟨"UrnHeap$Orders", "valueAt", "(IC)I"⟩
def RX7 : String := "UrnHeap$Paths"
def TX7 : u_T := fun k => match k with
  | 0 => ("UrnHeap$Paths", "heap", "LUrnHeap$Heap;", true)
  | _ => ("UrnHeap$Paths", "weights", "[I", true)
def tyX7 : Nat → FieldType := fun k => match k with
  | 0 => .object "UrnHeap$Heap"
  | _ => .array .int
abbrev wsX70 : List Cond := u_ws "UrnHeap$Paths" TX7 2
theorem nmX7 : ∀ a, a < 2 → ∀ b, b < 2 → a ≠ b → (TX7 a).2.1 ≠ (TX7 b).2.1 := by decide +kernel
theorem tyX7_ok : ∀ k, k < 2 → parseFieldDescriptor (TX7 k).2.2.1 = some (tyX7 k) := by decide +kernel
abbrev cX7_init : ByteArray := prog_9_method_1_code
def yX7_init : MethodName := ⟨"UrnHeap$Paths", "<init>", "(LUrnHeap$Heap;)V"⟩
abbrev cX7_reach : ByteArray := prog_9_method_2_code
def yX7_reach : MethodName := ⟨"UrnHeap$Paths", "reach", "()I"⟩
abbrev cX7_roots : ByteArray := prog_9_method_3_code
def yX7_roots : MethodName := ⟨"UrnHeap$Paths", "roots", "(I)I"⟩
abbrev cX7_reachUrnByUrn : ByteArray := prog_9_method_4_code
def yX7_reachUrnByUrn : MethodName := ⟨"UrnHeap$Paths", "reachUrnByUrn", "()I"⟩
abbrev cX7_distance : ByteArray := prog_9_method_5_code
def yX7_distance : MethodName := ⟨"UrnHeap$Paths", "distance", "(II)I"⟩
abbrev cX7_neededNames : ByteArray := prog_9_method_6_code
def yX7_neededNames : MethodName := ⟨"UrnHeap$Paths", "neededNames", "(I)I"⟩
abbrev cX7_ringLength : ByteArray := prog_9_method_7_code
def yX7_ringLength : MethodName := ⟨"UrnHeap$Paths", "ringLength", "(I)I"⟩
abbrev cX7_leftOver : ByteArray := prog_9_method_8_code
def yX7_leftOver : MethodName := ⟨"UrnHeap$Paths", "leftOver", "()I"⟩
abbrev cX7_urnAtRank : ByteArray := prog_9_method_9_code
def yX7_urnAtRank : MethodName := ⟨"UrnHeap$Paths", "urnAtRank", "(I)I"⟩
abbrev cX7_weighAll : ByteArray := prog_9_method_10_code
def yX7_weighAll : MethodName := ⟨"UrnHeap$Paths", "weighAll", "()V"⟩
abbrev cX7_heavierThan : ByteArray := prog_9_method_11_code
def yX7_heavierThan : MethodName := ⟨"UrnHeap$Paths", "heavierThan", "(I)I"⟩
abbrev cX7_rootsByRite : ByteArray := prog_9_method_12_code
def yX7_rootsByRite : MethodName := ⟨"UrnHeap$Paths", "rootsByRite", "(I)I"⟩
abbrev cX7_reachFrom : ByteArray := prog_9_method_13_code
def yX7_reachFrom : MethodName := ⟨"UrnHeap$Paths", "reachFrom", "(I)I"⟩
abbrev cX7_targetsOfAll : ByteArray := prog_9_method_14_code
def yX7_targetsOfAll : MethodName := ⟨"UrnHeap$Paths", "targetsOfAll", "(I)I"⟩
abbrev cX7_targets : ByteArray := prog_9_method_15_code
def yX7_targets : MethodName := ⟨"UrnHeap$Paths", "targets", "(I)I"⟩
abbrev cX7_isHeldBySome : ByteArray := prog_9_method_16_code
def yX7_isHeldBySome : MethodName := ⟨"UrnHeap$Paths", "isHeldBySome", "(II)Z"⟩
abbrev cX7_bit : ByteArray := prog_9_method_17_code
def yX7_bit : MethodName := ⟨"UrnHeap$Paths", "bit", "(I)I"⟩
abbrev cX7_isIn : ByteArray := prog_9_method_18_code
def yX7_isIn : MethodName := ⟨"UrnHeap$Paths", "isIn", "(II)Z"⟩
def RX8 : String := "UrnHeap$Refusals"
def TX8 : u_T := fun k => match k with
  | 0 => ("UrnHeap$Refusals", "reason", "I", false)
  | _ => ("UrnHeap$Refusals", "detail", "I", false)
def tyX8 : Nat → FieldType := fun k => match k with
  | 0 => .int
  | _ => .int
abbrev wsX80 : List Cond := u_ws "UrnHeap$Refusals" TX8 2
theorem nmX8 : ∀ a, a < 2 → ∀ b, b < 2 → a ≠ b → (TX8 a).2.1 ≠ (TX8 b).2.1 := by decide +kernel
theorem tyX8_ok : ∀ k, k < 2 → parseFieldDescriptor (TX8 k).2.2.1 = some (tyX8 k) := by decide +kernel
abbrev cX8_init : ByteArray := prog_10_method_1_code
def yX8_init : MethodName := ⟨"UrnHeap$Refusals", "<init>", "()V"⟩
abbrev cX8_refuse : ByteArray := prog_10_method_2_code
def yX8_refuse : MethodName := ⟨"UrnHeap$Refusals", "refuse", "(II)I"⟩
def RX9 : String := "UrnHeap$Row"
def TX9 : u_T := fun k => match k with
  | 0 => ("UrnHeap$Row", "urns", "[I", true)
  | _ => ("UrnHeap$Row", "size", "I", false)
def tyX9 : Nat → FieldType := fun k => match k with
  | 0 => .array .int
  | _ => .int
abbrev wsX90 : List Cond := u_ws "UrnHeap$Row" TX9 2
theorem nmX9 : ∀ a, a < 2 → ∀ b, b < 2 → a ≠ b → (TX9 a).2.1 ≠ (TX9 b).2.1 := by decide +kernel
theorem tyX9_ok : ∀ k, k < 2 → parseFieldDescriptor (TX9 k).2.2.1 = some (tyX9 k) := by decide +kernel
abbrev cX9_init : ByteArray := prog_11_method_1_code
def yX9_init : MethodName := ⟨"UrnHeap$Row", "<init>", "()V"⟩
abbrev cX9_addLast : ByteArray := prog_11_method_2_code
def yX9_addLast : MethodName := ⟨"UrnHeap$Row", "addLast", "(I)V"⟩
abbrev cX9_takeFirst : ByteArray := prog_11_method_3_code
def yX9_takeFirst : MethodName := ⟨"UrnHeap$Row", "takeFirst", "()I"⟩
abbrev cX9_at : ByteArray := prog_11_method_4_code
def yX9_at : MethodName := ⟨"UrnHeap$Row", "at", "(I)I"⟩
abbrev cX9_copyFrom : ByteArray := prog_11_method_5_code
def yX9_copyFrom : MethodName := ⟨"UrnHeap$Row", "copyFrom", "(LUrnHeap$Row;)V"⟩
def RX10 : String := "UrnHeap$Sexton"
def TX10 : u_T := fun k => match k with
  | 0 => ("UrnHeap$Sexton", "heap", "LUrnHeap$Heap;", true)
  | _ => ("UrnHeap$Sexton", "refusals", "LUrnHeap$Refusals;", true)
def tyX10 : Nat → FieldType := fun k => match k with
  | 0 => .object "UrnHeap$Heap"
  | _ => .object "UrnHeap$Refusals"
abbrev wsX100 : List Cond := u_ws "UrnHeap$Sexton" TX10 2
theorem nmX10 : ∀ a, a < 2 → ∀ b, b < 2 → a ≠ b → (TX10 a).2.1 ≠ (TX10 b).2.1 := by decide +kernel
theorem tyX10_ok : ∀ k, k < 2 → parseFieldDescriptor (TX10 k).2.2.1 = some (tyX10 k) := by decide +kernel
abbrev cX10_init : ByteArray := prog_12_method_1_code
def yX10_init : MethodName := ⟨"UrnHeap$Sexton", "<init>", "(LUrnHeap$Heap;LUrnHeap$Refusals;)V"⟩
abbrev cX10_beginRound : ByteArray := prog_12_method_2_code
def yX10_beginRound : MethodName := ⟨"UrnHeap$Sexton", "beginRound", "()I"⟩
abbrev cX10_doParts : ByteArray := prog_12_method_3_code
def yX10_doParts : MethodName := ⟨"UrnHeap$Sexton", "doParts", "(I)I"⟩
abbrev cX10_endRound : ByteArray := prog_12_method_4_code
def yX10_endRound : MethodName := ⟨"UrnHeap$Sexton", "endRound", "()I"⟩
abbrev cX10_doRite : ByteArray := prog_12_method_5_code
def yX10_doRite : MethodName := ⟨"UrnHeap$Sexton", "doRite", "()I"⟩
abbrev cX10_markRoots : ByteArray := prog_12_method_6_code
def yX10_markRoots : MethodName := ⟨"UrnHeap$Sexton", "markRoots", "()V"⟩
abbrev cX10_doPartsUntilOver : ByteArray := prog_12_method_7_code
def yX10_doPartsUntilOver : MethodName := ⟨"UrnHeap$Sexton", "doPartsUntilOver", "(I)I"⟩
abbrev cX10_blackenFirst : ByteArray := prog_12_method_8_code
def yX10_blackenFirst : MethodName := ⟨"UrnHeap$Sexton", "blackenFirst", "()V"⟩
abbrev cX10_makeRitesDue : ByteArray := prog_12_method_9_code
def yX10_makeRitesDue : MethodName := ⟨"UrnHeap$Sexton", "makeRitesDue", "()Z"⟩
abbrev cX10_beginSweep : ByteArray := prog_12_method_10_code
def yX10_beginSweep : MethodName := ⟨"UrnHeap$Sexton", "beginSweep", "()V"⟩
abbrev cX10_sweepNext : ByteArray := prog_12_method_11_code
def yX10_sweepNext : MethodName := ⟨"UrnHeap$Sexton", "sweepNext", "()V"⟩
def RX11 : String := "UrnHeap"
def TX11 : u_T := fun k => match k with
  | 0 => ("UrnHeap", "heap", "LUrnHeap$Heap;", true)
  | 1 => ("UrnHeap", "refusals", "LUrnHeap$Refusals;", true)
  | 2 => ("UrnHeap", "hands", "LUrnHeap$Hands;", true)
  | 3 => ("UrnHeap", "sexton", "LUrnHeap$Sexton;", true)
  | 4 => ("UrnHeap", "paths", "LUrnHeap$Paths;", true)
  | 5 => ("UrnHeap", "history", "LUrnHeap$History;", true)
  | 6 => ("UrnHeap", "orders", "LUrnHeap$Orders;", true)
  | _ => ("UrnHeap", "line", "LUrnHeap$Line;", true)
def tyX11 : Nat → FieldType := fun k => match k with
  | 0 => .object "UrnHeap$Heap"
  | 1 => .object "UrnHeap$Refusals"
  | 2 => .object "UrnHeap$Hands"
  | 3 => .object "UrnHeap$Sexton"
  | 4 => .object "UrnHeap$Paths"
  | 5 => .object "UrnHeap$History"
  | 6 => .object "UrnHeap$Orders"
  | _ => .object "UrnHeap$Line"
abbrev wsX110 : List Cond := u_ws "UrnHeap" TX11 8
theorem nmX11 : ∀ a, a < 8 → ∀ b, b < 8 → a ≠ b → (TX11 a).2.1 ≠ (TX11 b).2.1 := by decide +kernel
theorem tyX11_ok : ∀ k, k < 8 → parseFieldDescriptor (TX11 k).2.2.1 = some (tyX11 k) := by decide +kernel
abbrev cX11_init : ByteArray := prog_1_method_1_code
def yX11_init : MethodName := ⟨"UrnHeap", "<init>", "()V"⟩
abbrev cX11_urn : ByteArray := prog_1_method_2_code
def yX11_urn : MethodName := ⟨"UrnHeap", "urn", "(Z)I"⟩
abbrev cX11_tie : ByteArray := prog_1_method_3_code
def yX11_tie : MethodName := ⟨"UrnHeap", "tie", "(III)I"⟩
abbrev cX11_untie : ByteArray := prog_1_method_4_code
def yX11_untie : MethodName := ⟨"UrnHeap", "untie", "(II)I"⟩
abbrev cX11_weak : ByteArray := prog_1_method_5_code
def yX11_weak : MethodName := ⟨"UrnHeap", "weak", "(II)I"⟩
abbrev cX11_unweak : ByteArray := prog_1_method_6_code
def yX11_unweak : MethodName := ⟨"UrnHeap", "unweak", "(I)I"⟩
abbrev cX11_name : ByteArray := prog_1_method_7_code
def yX11_name : MethodName := ⟨"UrnHeap", "name", "(II)I"⟩
abbrev cX11_drop : ByteArray := prog_1_method_8_code
def yX11_drop : MethodName := ⟨"UrnHeap", "drop", "(I)I"⟩
abbrev cX11_urnOf : ByteArray := prog_1_method_9_code
def yX11_urnOf : MethodName := ⟨"UrnHeap", "urnOf", "(II)I"⟩
abbrev cX11_threadOf : ByteArray := prog_1_method_10_code
def yX11_threadOf : MethodName := ⟨"UrnHeap", "threadOf", "(II)I"⟩
abbrev cX11_named : ByteArray := prog_1_method_11_code
def yX11_named : MethodName := ⟨"UrnHeap", "named", "(I)I"⟩
abbrev cX11_begin : ByteArray := prog_1_method_12_code
def yX11_begin : MethodName := ⟨"UrnHeap", "begin", "()I"⟩
abbrev cX11_step : ByteArray := prog_1_method_13_code
def yX11_step : MethodName := ⟨"UrnHeap", "step", "(I)I"⟩
abbrev cX11_round : ByteArray := prog_1_method_14_code
def yX11_round : MethodName := ⟨"UrnHeap", "round", "()I"⟩
abbrev cX11_rite : ByteArray := prog_1_method_15_code
def yX11_rite : MethodName := ⟨"UrnHeap", "rite", "()I"⟩
abbrev cX11_due : ByteArray := prog_1_method_16_code
def yX11_due : MethodName := ⟨"UrnHeap", "due", "(I)I"⟩
abbrev cX11_grey : ByteArray := prog_1_method_17_code
def yX11_grey : MethodName := ⟨"UrnHeap", "grey", "(I)I"⟩
abbrev cX11_freed : ByteArray := prog_1_method_18_code
def yX11_freed : MethodName := ⟨"UrnHeap", "freed", "(I)I"⟩
abbrev cX11_live : ByteArray := prog_1_method_19_code
def yX11_live : MethodName := ⟨"UrnHeap", "live", "()I"⟩
abbrev cX11_liveAgain : ByteArray := prog_1_method_20_code
def yX11_liveAgain : MethodName := ⟨"UrnHeap", "liveAgain", "()I"⟩
abbrev cX11_depth : ByteArray := prog_1_method_21_code
def yX11_depth : MethodName := ⟨"UrnHeap", "depth", "(I)I"⟩
abbrev cX11_keepers : ByteArray := prog_1_method_22_code
def yX11_keepers : MethodName := ⟨"UrnHeap", "keepers", "(I)I"⟩
abbrev cX11_ring : ByteArray := prog_1_method_23_code
def yX11_ring : MethodName := ⟨"UrnHeap", "ring", "(I)I"⟩
abbrev cX11_wouldFree : ByteArray := prog_1_method_24_code
def yX11_wouldFree : MethodName := ⟨"UrnHeap", "wouldFree", "()I"⟩
abbrev cX11_ranked : ByteArray := prog_1_method_25_code
def yX11_ranked : MethodName := ⟨"UrnHeap", "ranked", "(I)I"⟩
abbrev cX11_append : ByteArray := prog_1_method_26_code
def yX11_append : MethodName := ⟨"UrnHeap", "append", "(I)I"⟩
abbrev cX11_run : ByteArray := prog_1_method_27_code
def yX11_run : MethodName := ⟨"UrnHeap", "run", "()I"⟩
abbrev cX11_tell : ByteArray := prog_1_method_28_code
def yX11_tell : MethodName := ⟨"UrnHeap", "tell", "(I)I"⟩
abbrev cX11_tellHeap : ByteArray := prog_1_method_29_code
def yX11_tellHeap : MethodName := ⟨"UrnHeap", "tellHeap", "()I"⟩
abbrev cX11_character : ByteArray := prog_1_method_30_code
def yX11_character : MethodName := ⟨"UrnHeap", "character", "(I)I"⟩
abbrev cX11_reason : ByteArray := prog_1_method_31_code
def yX11_reason : MethodName := ⟨"UrnHeap", "reason", "(Z)I"⟩
abbrev cX11_account : ByteArray := prog_1_method_32_code
def yX11_account : MethodName := ⟨"UrnHeap", "account", "(I)I"⟩
abbrev cX11_isBalanced : ByteArray := prog_1_method_33_code
def yX11_isBalanced : MethodName := ⟨"UrnHeap", "isBalanced", "()I"⟩
abbrev cX11_meanHeld : ByteArray := prog_1_method_34_code
def yX11_meanHeld : MethodName := ⟨"UrnHeap", "meanHeld", "()D"⟩
abbrev cX11_liveShare : ByteArray := prog_1_method_35_code
def yX11_liveShare : MethodName := ⟨"UrnHeap", "liveShare", "()F"⟩
abbrev cX11_undo : ByteArray := prog_1_method_36_code
def yX11_undo : MethodName := ⟨"UrnHeap", "undo", "()I"⟩
abbrev cX11_save : ByteArray := prog_1_method_37_code
def yX11_save : MethodName := ⟨"UrnHeap", "save", "()I"⟩
abbrev cX11_restore : ByteArray := prog_1_method_38_code
def yX11_restore : MethodName := ⟨"UrnHeap", "restore", "()I"⟩
abbrev cX11_carryOut : ByteArray := prog_1_method_39_code
def yX11_carryOut : MethodName := ⟨"UrnHeap", "carryOut", "(I)I"⟩
abbrev cX11_isCell : ByteArray := prog_1_method_40_code
def yX11_isCell : MethodName := ⟨"UrnHeap", "isCell", "(I)Z"⟩
abbrev cX11_isSlot : ByteArray := prog_1_method_41_code
def yX11_isSlot : MethodName := ⟨"UrnHeap", "isSlot", "(I)Z"⟩
abbrev cX11_isName : ByteArray := prog_1_method_42_code
def yX11_isName : MethodName := ⟨"UrnHeap", "isName", "(I)Z"⟩
def RX12 : String := "UrnHeapModel"
def TX12 : u_T := fun k => match k with
  | 0 => ("UrnHeapModel", "s", "[I", true)
  | 1 => ("UrnHeapModel", "frame", "[I", true)
  | 2 => ("UrnHeapModel", "saved", "[I", true)
  | 3 => ("UrnHeapModel", "history", "[I", true)
  | 4 => ("UrnHeapModel", "kept", "I", false)
  | 5 => ("UrnHeapModel", "hasSaved", "Z", false)
  | 6 => ("UrnHeapModel", "text", "[I", true)
  | 7 => ("UrnHeapModel", "told", "[I", true)
  | 8 => ("UrnHeapModel", "line", "[I", true)
  | 9 => ("UrnHeapModel", "far", "[I", true)
  | 10 => ("UrnHeapModel", "length", "I", false)
  | 11 => ("UrnHeapModel", "lineLength", "I", false)
  | 12 => ("UrnHeapModel", "why", "I", false)
  | 13 => ("UrnHeapModel", "detail", "I", false)
  | 14 => ("UrnHeapModel", "about", "I", false)
  | 15 => ("UrnHeapModel", "answer", "I", false)
  | 16 => ("UrnHeapModel", "spot", "I", false)
  | 17 => ("UrnHeapModel", "end", "I", false)
  | 18 => ("UrnHeapModel", "orders", "I", false)
  | _ => ("UrnHeapModel", "isWrong", "Z", false)
def tyX12 : Nat → FieldType := fun k => match k with
  | 0 => .array .int
  | 1 => .array .int
  | 2 => .array .int
  | 3 => .array .int
  | 4 => .int
  | 5 => .boolean
  | 6 => .array .int
  | 7 => .array .int
  | 8 => .array .int
  | 9 => .array .int
  | 10 => .int
  | 11 => .int
  | 12 => .int
  | 13 => .int
  | 14 => .int
  | 15 => .int
  | 16 => .int
  | 17 => .int
  | 18 => .int
  | _ => .boolean
abbrev wsX120 : List Cond := u_ws "UrnHeapModel" TX12 20
theorem nmX12 : ∀ a, a < 20 → ∀ b, b < 20 → a ≠ b → (TX12 a).2.1 ≠ (TX12 b).2.1 := by decide +kernel
theorem tyX12_ok : ∀ k, k < 20 → parseFieldDescriptor (TX12 k).2.2.1 = some (tyX12 k) := by decide +kernel
abbrev cX12_init : ByteArray := prog_14_method_1_code
def yX12_init : MethodName := ⟨"UrnHeapModel", "<init>", "()V"⟩
abbrev cX12_in : ByteArray := prog_14_method_2_code
def yX12_in : MethodName := ⟨"UrnHeapModel", "in", "(III)Z"⟩
abbrev cX12_remembers : ByteArray := prog_14_method_3_code
def yX12_remembers : MethodName := ⟨"UrnHeapModel", "remembers", "()V"⟩
abbrev cX12_changed : ByteArray := prog_14_method_4_code
def yX12_changed : MethodName := ⟨"UrnHeapModel", "changed", "(I)I"⟩
abbrev cX12_refused : ByteArray := prog_14_method_5_code
def yX12_refused : MethodName := ⟨"UrnHeapModel", "refused", "(II)I"⟩
abbrev cX12_done : ByteArray := prog_14_method_6_code
def yX12_done : MethodName := ⟨"UrnHeapModel", "done", "(I)I"⟩
abbrev cX12_ends : ByteArray := prog_14_method_7_code
def yX12_ends : MethodName := ⟨"UrnHeapModel", "ends", "(I)I"⟩
abbrev cX12_isUrn : ByteArray := prog_14_method_8_code
def yX12_isUrn : MethodName := ⟨"UrnHeapModel", "isUrn", "(I)Z"⟩
abbrev cX12_at : ByteArray := prog_14_method_9_code
def yX12_at : MethodName := ⟨"UrnHeapModel", "at", "(II)I"⟩
abbrev cX12_empties : ByteArray := prog_14_method_10_code
def yX12_empties : MethodName := ⟨"UrnHeapModel", "empties", "(I)V"⟩
abbrev cX12_isDoomed : ByteArray := prog_14_method_11_code
def yX12_isDoomed : MethodName := ⟨"UrnHeapModel", "isDoomed", "(I)Z"⟩
abbrev cX12_greys : ByteArray := prog_14_method_12_code
def yX12_greys : MethodName := ⟨"UrnHeapModel", "greys", "(I)V"⟩
abbrev cX12_greysIfWhite : ByteArray := prog_14_method_13_code
def yX12_greysIfWhite : MethodName := ⟨"UrnHeapModel", "greysIfWhite", "(I)V"⟩
abbrev cX12_beginsRound : ByteArray := prog_14_method_14_code
def yX12_beginsRound : MethodName := ⟨"UrnHeapModel", "beginsRound", "()I"⟩
abbrev cX12_blackens : ByteArray := prog_14_method_15_code
def yX12_blackens : MethodName := ⟨"UrnHeapModel", "blackens", "()V"⟩
abbrev cX12_becomeDue : ByteArray := prog_14_method_16_code
def yX12_becomeDue : MethodName := ⟨"UrnHeapModel", "becomeDue", "()Z"⟩
abbrev cX12_cutsWeak : ByteArray := prog_14_method_17_code
def yX12_cutsWeak : MethodName := ⟨"UrnHeapModel", "cutsWeak", "()V"⟩
abbrev cX12_frees : ByteArray := prog_14_method_18_code
def yX12_frees : MethodName := ⟨"UrnHeapModel", "frees", "(I)V"⟩
abbrev cX12_sweeps : ByteArray := prog_14_method_19_code
def yX12_sweeps : MethodName := ⟨"UrnHeapModel", "sweeps", "()V"⟩
abbrev cX12_part : ByteArray := prog_14_method_20_code
def yX12_part : MethodName := ⟨"UrnHeapModel", "part", "()V"⟩
abbrev cX12_partsOn : ByteArray := prog_14_method_21_code
def yX12_partsOn : MethodName := ⟨"UrnHeapModel", "partsOn", "(I)I"⟩
abbrev cX12_makes : ByteArray := prog_14_method_22_code
def yX12_makes : MethodName := ⟨"UrnHeapModel", "makes", "(Z)I"⟩
abbrev cX12_ties : ByteArray := prog_14_method_23_code
def yX12_ties : MethodName := ⟨"UrnHeapModel", "ties", "(III)I"⟩
abbrev cX12_unties : ByteArray := prog_14_method_24_code
def yX12_unties : MethodName := ⟨"UrnHeapModel", "unties", "(II)I"⟩
abbrev cX12_weakens : ByteArray := prog_14_method_25_code
def yX12_weakens : MethodName := ⟨"UrnHeapModel", "weakens", "(II)I"⟩
abbrev cX12_names : ByteArray := prog_14_method_26_code
def yX12_names : MethodName := ⟨"UrnHeapModel", "names", "(II)I"⟩
abbrev cX12_drops : ByteArray := prog_14_method_27_code
def yX12_drops : MethodName := ⟨"UrnHeapModel", "drops", "(I)I"⟩
abbrev cX12_stepsOn : ByteArray := prog_14_method_28_code
def yX12_stepsOn : MethodName := ⟨"UrnHeapModel", "stepsOn", "(I)I"⟩
abbrev cX12_wholeRound : ByteArray := prog_14_method_29_code
def yX12_wholeRound : MethodName := ⟨"UrnHeapModel", "wholeRound", "()I"⟩
abbrev cX12_doesRite : ByteArray := prog_14_method_30_code
def yX12_doesRite : MethodName := ⟨"UrnHeapModel", "doesRite", "()I"⟩
abbrev cX12_urn : ByteArray := prog_14_method_31_code
def yX12_urn : MethodName := ⟨"UrnHeapModel", "urn", "(Z)I"⟩
abbrev cX12_tie : ByteArray := prog_14_method_32_code
def yX12_tie : MethodName := ⟨"UrnHeapModel", "tie", "(III)I"⟩
abbrev cX12_untie : ByteArray := prog_14_method_33_code
def yX12_untie : MethodName := ⟨"UrnHeapModel", "untie", "(II)I"⟩
abbrev cX12_weak : ByteArray := prog_14_method_34_code
def yX12_weak : MethodName := ⟨"UrnHeapModel", "weak", "(II)I"⟩
abbrev cX12_unweak : ByteArray := prog_14_method_35_code
def yX12_unweak : MethodName := ⟨"UrnHeapModel", "unweak", "(I)I"⟩
abbrev cX12_name : ByteArray := prog_14_method_36_code
def yX12_name : MethodName := ⟨"UrnHeapModel", "name", "(II)I"⟩
abbrev cX12_drop : ByteArray := prog_14_method_37_code
def yX12_drop : MethodName := ⟨"UrnHeapModel", "drop", "(I)I"⟩
abbrev cX12_holds : ByteArray := prog_14_method_38_code
def yX12_holds : MethodName := ⟨"UrnHeapModel", "holds", "(I)I"⟩
abbrev cX12_held : ByteArray := prog_14_method_39_code
def yX12_held : MethodName := ⟨"UrnHeapModel", "held", "(I)I"⟩
abbrev cX12_urnOf : ByteArray := prog_14_method_40_code
def yX12_urnOf : MethodName := ⟨"UrnHeapModel", "urnOf", "(II)I"⟩
abbrev cX12_threadOf : ByteArray := prog_14_method_41_code
def yX12_threadOf : MethodName := ⟨"UrnHeapModel", "threadOf", "(II)I"⟩
abbrev cX12_named : ByteArray := prog_14_method_42_code
def yX12_named : MethodName := ⟨"UrnHeapModel", "named", "(I)I"⟩
abbrev cX12_begin : ByteArray := prog_14_method_43_code
def yX12_begin : MethodName := ⟨"UrnHeapModel", "begin", "()I"⟩
abbrev cX12_step : ByteArray := prog_14_method_44_code
def yX12_step : MethodName := ⟨"UrnHeapModel", "step", "(I)I"⟩
abbrev cX12_round : ByteArray := prog_14_method_45_code
def yX12_round : MethodName := ⟨"UrnHeapModel", "round", "()I"⟩
abbrev cX12_rite : ByteArray := prog_14_method_46_code
def yX12_rite : MethodName := ⟨"UrnHeapModel", "rite", "()I"⟩
abbrev cX12_due : ByteArray := prog_14_method_47_code
def yX12_due : MethodName := ⟨"UrnHeapModel", "due", "(I)I"⟩
abbrev cX12_grey : ByteArray := prog_14_method_48_code
def yX12_grey : MethodName := ⟨"UrnHeapModel", "grey", "(I)I"⟩
abbrev cX12_freed : ByteArray := prog_14_method_49_code
def yX12_freed : MethodName := ⟨"UrnHeapModel", "freed", "(I)I"⟩
abbrev cX12_nears : ByteArray := prog_14_method_50_code
def yX12_nears : MethodName := ⟨"UrnHeapModel", "nears", "(II)V"⟩
abbrev cX12_measures : ByteArray := prog_14_method_51_code
def yX12_measures : MethodName := ⟨"UrnHeapModel", "measures", "(IZ)V"⟩
abbrev cX12_reached : ByteArray := prog_14_method_52_code
def yX12_reached : MethodName := ⟨"UrnHeapModel", "reached", "()I"⟩
abbrev cX12_live : ByteArray := prog_14_method_53_code
def yX12_live : MethodName := ⟨"UrnHeapModel", "live", "()I"⟩
abbrev cX12_liveAgain : ByteArray := prog_14_method_54_code
def yX12_liveAgain : MethodName := ⟨"UrnHeapModel", "liveAgain", "()I"⟩
abbrev cX12_depth : ByteArray := prog_14_method_55_code
def yX12_depth : MethodName := ⟨"UrnHeapModel", "depth", "(I)I"⟩
abbrev cX12_keepers : ByteArray := prog_14_method_56_code
def yX12_keepers : MethodName := ⟨"UrnHeapModel", "keepers", "(I)I"⟩
abbrev cX12_ring : ByteArray := prog_14_method_57_code
def yX12_ring : MethodName := ⟨"UrnHeapModel", "ring", "(I)I"⟩
abbrev cX12_urns : ByteArray := prog_14_method_58_code
def yX12_urns : MethodName := ⟨"UrnHeapModel", "urns", "()I"⟩
abbrev cX12_wouldFree : ByteArray := prog_14_method_59_code
def yX12_wouldFree : MethodName := ⟨"UrnHeapModel", "wouldFree", "()I"⟩
abbrev cX12_isAhead : ByteArray := prog_14_method_60_code
def yX12_isAhead : MethodName := ⟨"UrnHeapModel", "isAhead", "(II)Z"⟩
abbrev cX12_ranked : ByteArray := prog_14_method_61_code
def yX12_ranked : MethodName := ⟨"UrnHeapModel", "ranked", "(I)I"⟩
abbrev cX12_append : ByteArray := prog_14_method_62_code
def yX12_append : MethodName := ⟨"UrnHeapModel", "append", "(I)I"⟩
abbrev cX12_here : ByteArray := prog_14_method_63_code
def yX12_here : MethodName := ⟨"UrnHeapModel", "here", "()I"⟩
abbrev cX12_next : ByteArray := prog_14_method_64_code
def yX12_next : MethodName := ⟨"UrnHeapModel", "next", "()I"⟩
abbrev cX12_word : ByteArray := prog_14_method_65_code
def yX12_word : MethodName := ⟨"UrnHeapModel", "word", "(Ljava/lang/String;)V"⟩
abbrev cX12_tells : ByteArray := prog_14_method_66_code
def yX12_tells : MethodName := ⟨"UrnHeapModel", "tells", "(II)V"⟩
abbrev cX12_number : ByteArray := prog_14_method_67_code
def yX12_number : MethodName := ⟨"UrnHeapModel", "number", "(II)V"⟩
abbrev cX12_letter : ByteArray := prog_14_method_68_code
def yX12_letter : MethodName := ⟨"UrnHeapModel", "letter", "(I)V"⟩
abbrev cX12_slotOf : ByteArray := prog_14_method_69_code
def yX12_slotOf : MethodName := ⟨"UrnHeapModel", "slotOf", "(Ljava/lang/String;)V"⟩
abbrev cX12_readsOne : ByteArray := prog_14_method_70_code
def yX12_readsOne : MethodName := ⟨"UrnHeapModel", "readsOne", "()V"⟩
abbrev cX12_does : ByteArray := prog_14_method_71_code
def yX12_does : MethodName := ⟨"UrnHeapModel", "does", "(I)I"⟩
abbrev cX12_run : ByteArray := prog_14_method_72_code
def yX12_run : MethodName := ⟨"UrnHeapModel", "run", "()I"⟩
abbrev cX12_writes : ByteArray := prog_14_method_73_code
def yX12_writes : MethodName := ⟨"UrnHeapModel", "writes", "(I)V"⟩
abbrev cX12_writesNumber : ByteArray := prog_14_method_74_code
def yX12_writesNumber : MethodName := ⟨"UrnHeapModel", "writesNumber", "(I)V"⟩
abbrev cX12_tell : ByteArray := prog_14_method_75_code
def yX12_tell : MethodName := ⟨"UrnHeapModel", "tell", "(I)I"⟩
abbrev cX12_tellHeap : ByteArray := prog_14_method_76_code
def yX12_tellHeap : MethodName := ⟨"UrnHeapModel", "tellHeap", "()I"⟩
abbrev cX12_character : ByteArray := prog_14_method_77_code
def yX12_character : MethodName := ⟨"UrnHeapModel", "character", "(I)I"⟩
abbrev cX12_reason : ByteArray := prog_14_method_78_code
def yX12_reason : MethodName := ⟨"UrnHeapModel", "reason", "(Z)I"⟩
abbrev cX12_manyUrns : ByteArray := prog_14_method_79_code
def yX12_manyUrns : MethodName := ⟨"UrnHeapModel", "manyUrns", "()I"⟩
abbrev cX12_manyThat : ByteArray := prog_14_method_80_code
def yX12_manyThat : MethodName := ⟨"UrnHeapModel", "manyThat", "(I)I"⟩
abbrev cX12_namesUsed : ByteArray := prog_14_method_81_code
def yX12_namesUsed : MethodName := ⟨"UrnHeapModel", "namesUsed", "()I"⟩
abbrev cX12_account : ByteArray := prog_14_method_82_code
def yX12_account : MethodName := ⟨"UrnHeapModel", "account", "(I)I"⟩
abbrev cX12_isThere : ByteArray := prog_14_method_83_code
def yX12_isThere : MethodName := ⟨"UrnHeapModel", "isThere", "(I)Z"⟩
abbrev cX12_isFit : ByteArray := prog_14_method_84_code
def yX12_isFit : MethodName := ⟨"UrnHeapModel", "isFit", "(I)Z"⟩
abbrev cX12_isBalanced : ByteArray := prog_14_method_85_code
def yX12_isBalanced : MethodName := ⟨"UrnHeapModel", "isBalanced", "()I"⟩
abbrev cX12_meanHeld : ByteArray := prog_14_method_86_code
def yX12_meanHeld : MethodName := ⟨"UrnHeapModel", "meanHeld", "()D"⟩
abbrev cX12_liveShare : ByteArray := prog_14_method_87_code
def yX12_liveShare : MethodName := ⟨"UrnHeapModel", "liveShare", "()F"⟩
abbrev cX12_undo : ByteArray := prog_14_method_88_code
def yX12_undo : MethodName := ⟨"UrnHeapModel", "undo", "()I"⟩
abbrev cX12_save : ByteArray := prog_14_method_89_code
def yX12_save : MethodName := ⟨"UrnHeapModel", "save", "()I"⟩
abbrev cX12_restore : ByteArray := prog_14_method_90_code
def yX12_restore : MethodName := ⟨"UrnHeapModel", "restore", "()I"⟩
def RJx145de : String := "java/io/Serializable"
def TJx145de : u_T := fun k => match k with
  | _ => ("", "", "", false)
def tyJx145de : Nat → FieldType := fun k => match k with
  | _ => .int
abbrev wsJx145de0 : List Cond := u_ws "java/io/Serializable" TJx145de 0
theorem nmJx145de : ∀ a, a < 0 → ∀ b, b < 0 → a ≠ b → (TJx145de a).2.1 ≠ (TJx145de b).2.1 := by decide +kernel
theorem tyJx145de_ok : ∀ k, k < 0 → parseFieldDescriptor (TJx145de k).2.2.1 = some (tyJx145de k) := by decide +kernel
def RJ5 : String := "java/lang/AbstractStringBuilder"
def TJ5 : u_T := fun k => match k with
  | _ => ("", "", "", false)
def tyJ5 : Nat → FieldType := fun k => match k with
  | _ => .int
abbrev wsJ50 : List Cond := u_ws "java/lang/AbstractStringBuilder" TJ5 0
theorem nmJ5 : ∀ a, a < 0 → ∀ b, b < 0 → a ≠ b → (TJ5 a).2.1 ≠ (TJ5 b).2.1 := by decide +kernel
theorem tyJ5_ok : ∀ k, k < 0 → parseFieldDescriptor (TJ5 k).2.2.1 = some (tyJ5 k) := by decide +kernel
abbrev cJ5_init_d00df : ByteArray := prog_15_method_2_code
def yJ5_init_d00df : MethodName := ⟨"java/lang/AbstractStringBuilder", "<init>", "(I)V"⟩
abbrev cJ5_length_8abf5 : ByteArray := prog_15_method_6_code
def yJ5_length_8abf5 : MethodName := ⟨"java/lang/AbstractStringBuilder", "length", "()I"⟩
abbrev cJ5_ensureCapacityInternal_d00df : ByteArray := prog_15_method_9_code
def yJ5_ensureCapacityInternal_d00df : MethodName := ⟨"java/lang/AbstractStringBuilder", "ensureCapacityInternal", "(I)V"⟩
abbrev cJ5_newCapacity_0f7a4 : ByteArray := prog_15_method_10_code
def yJ5_newCapacity_0f7a4 : MethodName := ⟨"java/lang/AbstractStringBuilder", "newCapacity", "(I)I"⟩
abbrev cJ5_inflate_da8c8 : ByteArray := prog_15_method_11_code
def yJ5_inflate_da8c8 : MethodName := ⟨"java/lang/AbstractStringBuilder", "inflate", "()V"⟩
abbrev cJ5_setLength_d00df : ByteArray := prog_15_method_13_code
def yJ5_setLength_d00df : MethodName := ⟨"java/lang/AbstractStringBuilder", "setLength", "(I)V"⟩
abbrev cJ5_charAt_5068e : ByteArray := prog_15_method_14_code
def yJ5_charAt_5068e : MethodName := ⟨"java/lang/AbstractStringBuilder", "charAt", "(I)C"⟩
abbrev cJ5_append_3fe6f : ByteArray := prog_15_method_31_code
def yJ5_append_3fe6f : MethodName := ⟨"java/lang/AbstractStringBuilder", "append", "(C)Ljava/lang/AbstractStringBuilder;"⟩
abbrev cJ5_append_c97b9 : ByteArray := prog_15_method_32_code
def yJ5_append_c97b9 : MethodName := ⟨"java/lang/AbstractStringBuilder", "append", "(I)Ljava/lang/AbstractStringBuilder;"⟩
abbrev cJ5_isLatin1_aae02 : ByteArray := prog_15_method_68_code
def yJ5_isLatin1_aae02 : MethodName := ⟨"java/lang/AbstractStringBuilder", "isLatin1", "()Z"⟩
def RJx2cfe8 : String := "java/lang/Appendable"
def TJx2cfe8 : u_T := fun k => match k with
  | _ => ("", "", "", false)
def tyJx2cfe8 : Nat → FieldType := fun k => match k with
  | _ => .int
abbrev wsJx2cfe80 : List Cond := u_ws "java/lang/Appendable" TJx2cfe8 0
theorem nmJx2cfe8 : ∀ a, a < 0 → ∀ b, b < 0 → a ≠ b → (TJx2cfe8 a).2.1 ≠ (TJx2cfe8 b).2.1 := by decide +kernel
theorem tyJx2cfe8_ok : ∀ k, k < 0 → parseFieldDescriptor (TJx2cfe8 k).2.2.1 = some (tyJx2cfe8 k) := by decide +kernel
def RJx9f9b0 : String := "java/lang/CharSequence"
def TJx9f9b0 : u_T := fun k => match k with
  | _ => ("", "", "", false)
def tyJx9f9b0 : Nat → FieldType := fun k => match k with
  | _ => .int
abbrev wsJx9f9b00 : List Cond := u_ws "java/lang/CharSequence" TJx9f9b0 0
theorem nmJx9f9b0 : ∀ a, a < 0 → ∀ b, b < 0 → a ≠ b → (TJx9f9b0 a).2.1 ≠ (TJx9f9b0 b).2.1 := by decide +kernel
theorem tyJx9f9b0_ok : ∀ k, k < 0 → parseFieldDescriptor (TJx9f9b0 k).2.2.1 = some (tyJx9f9b0 k) := by decide +kernel
def RJx8e188 : String := "java/lang/Cloneable"
def TJx8e188 : u_T := fun k => match k with
  | _ => ("", "", "", false)
def tyJx8e188 : Nat → FieldType := fun k => match k with
  | _ => .int
abbrev wsJx8e1880 : List Cond := u_ws "java/lang/Cloneable" TJx8e188 0
theorem nmJx8e188 : ∀ a, a < 0 → ∀ b, b < 0 → a ≠ b → (TJx8e188 a).2.1 ≠ (TJx8e188 b).2.1 := by decide +kernel
theorem tyJx8e188_ok : ∀ k, k < 0 → parseFieldDescriptor (TJx8e188 k).2.2.1 = some (tyJx8e188 k) := by decide +kernel
def RJxb160c : String := "java/lang/Comparable"
def TJxb160c : u_T := fun k => match k with
  | _ => ("", "", "", false)
def tyJxb160c : Nat → FieldType := fun k => match k with
  | _ => .int
abbrev wsJxb160c0 : List Cond := u_ws "java/lang/Comparable" TJxb160c 0
theorem nmJxb160c : ∀ a, a < 0 → ∀ b, b < 0 → a ≠ b → (TJxb160c a).2.1 ≠ (TJxb160c b).2.1 := by decide +kernel
theorem tyJxb160c_ok : ∀ k, k < 0 → parseFieldDescriptor (TJxb160c k).2.2.1 = some (tyJxb160c k) := by decide +kernel
def RJx29ce0 : String := "java/lang/Enum"
def TJx29ce0 : u_T := fun k => match k with
  | _ => ("", "", "", false)
def tyJx29ce0 : Nat → FieldType := fun k => match k with
  | _ => .int
abbrev wsJx29ce00 : List Cond := u_ws "java/lang/Enum" TJx29ce0 0
theorem nmJx29ce0 : ∀ a, a < 0 → ∀ b, b < 0 → a ≠ b → (TJx29ce0 a).2.1 ≠ (TJx29ce0 b).2.1 := by decide +kernel
theorem tyJx29ce0_ok : ∀ k, k < 0 → parseFieldDescriptor (TJx29ce0 k).2.2.1 = some (tyJx29ce0 k) := by decide +kernel
abbrev cJx29ce0_ordinal_8abf5 : ByteArray := prog_17_method_2_code
def yJx29ce0_ordinal_8abf5 : MethodName := ⟨"java/lang/Enum", "ordinal", "()I"⟩
def RJ6 : String := "java/lang/Integer"
def TJ6 : u_T := fun k => match k with
  | _ => ("", "", "", false)
def tyJ6 : Nat → FieldType := fun k => match k with
  | _ => .int
abbrev wsJ60 : List Cond := u_ws "java/lang/Integer" TJ6 0
theorem nmJ6 : ∀ a, a < 0 → ∀ b, b < 0 → a ≠ b → (TJ6 a).2.1 ≠ (TJ6 b).2.1 := by decide +kernel
theorem tyJ6_ok : ∀ k, k < 0 → parseFieldDescriptor (TJ6 k).2.2.1 = some (tyJ6 k) := by decide +kernel
abbrev cJ6_getChars_ba4f3 : ByteArray := prog_18_method_12_code
def yJ6_getChars_ba4f3 : MethodName := ⟨"java/lang/Integer", "getChars", "(II[B)I"⟩
abbrev cJ6_stringSize_0f7a4 : ByteArray := prog_18_method_13_code
def yJ6_stringSize_0f7a4 : MethodName := ⟨"java/lang/Integer", "stringSize", "(I)I"⟩
abbrev cJ6_bitCount_0f7a4 : ByteArray := prog_18_method_49_code
def yJ6_bitCount_0f7a4 : MethodName := ⟨"java/lang/Integer", "bitCount", "(I)I"⟩
def RJ9 : String := "java/lang/Math"
def TJ9 : u_T := fun k => match k with
  | _ => ("", "", "", false)
def tyJ9 : Nat → FieldType := fun k => match k with
  | _ => .int
abbrev wsJ90 : List Cond := u_ws "java/lang/Math" TJ9 0
theorem nmJ9 : ∀ a, a < 0 → ∀ b, b < 0 → a ≠ b → (TJ9 a).2.1 ≠ (TJ9 b).2.1 := by decide +kernel
theorem tyJ9_ok : ∀ k, k < 0 → parseFieldDescriptor (TJ9 k).2.2.1 = some (tyJ9 k) := by decide +kernel
abbrev cJ9_max_7cf53 : ByteArray := prog_19_method_65_code
def yJ9_max_7cf53 : MethodName := ⟨"java/lang/Math", "max", "(II)I"⟩
abbrev cJ9_min_7cf53 : ByteArray := prog_19_method_69_code
def yJ9_min_7cf53 : MethodName := ⟨"java/lang/Math", "min", "(II)I"⟩
def RJxd2413 : String := "java/lang/Number"
def TJxd2413 : u_T := fun k => match k with
  | _ => ("", "", "", false)
def tyJxd2413 : Nat → FieldType := fun k => match k with
  | _ => .int
abbrev wsJxd24130 : List Cond := u_ws "java/lang/Number" TJxd2413 0
theorem nmJxd2413 : ∀ a, a < 0 → ∀ b, b < 0 → a ≠ b → (TJxd2413 a).2.1 ≠ (TJxd2413 b).2.1 := by decide +kernel
theorem tyJxd2413_ok : ∀ k, k < 0 → parseFieldDescriptor (TJxd2413 k).2.2.1 = some (tyJxd2413 k) := by decide +kernel
def RJ0 : String := "java/lang/String"
def TJ0 : u_T := fun k => match k with
  | _ => ("", "", "", false)
def tyJ0 : Nat → FieldType := fun k => match k with
  | _ => .int
abbrev wsJ00 : List Cond := u_ws "java/lang/String" TJ0 0
theorem nmJ0 : ∀ a, a < 0 → ∀ b, b < 0 → a ≠ b → (TJ0 a).2.1 ≠ (TJ0 b).2.1 := by decide +kernel
theorem tyJ0_ok : ∀ k, k < 0 → parseFieldDescriptor (TJ0 k).2.2.1 = some (tyJ0 k) := by decide +kernel
abbrev cJ0_length_8abf5 : ByteArray := prog_21_method_54_code
def yJ0_length_8abf5 : MethodName := ⟨"java/lang/String", "length", "()I"⟩
abbrev cJ0_charAt_5068e : ByteArray := prog_21_method_56_code
def yJ0_charAt_5068e : MethodName := ⟨"java/lang/String", "charAt", "(I)C"⟩
abbrev cJ0_coder_7d493 : ByteArray := prog_21_method_152_code
def yJ0_coder_7d493 : MethodName := ⟨"java/lang/String", "coder", "()B"⟩
abbrev cJ0_isLatin1_aae02 : ByteArray := prog_21_method_154_code
def yJ0_isLatin1_aae02 : MethodName := ⟨"java/lang/String", "isLatin1", "()Z"⟩
abbrev cJ0_checkIndex_df160 : ByteArray := prog_21_method_155_code
def yJ0_checkIndex_df160 : MethodName := ⟨"java/lang/String", "checkIndex", "(II)V"⟩
abbrev cJ0_checkBoundsOffCount_cabcc : ByteArray := prog_21_method_157_code
def yJ0_checkBoundsOffCount_cabcc : MethodName := ⟨"java/lang/String", "checkBoundsOffCount", "(III)I"⟩
abbrev cJ0_checkBoundsBeginEnd_23922 : ByteArray := prog_21_method_158_code
def yJ0_checkBoundsBeginEnd_23922 : MethodName := ⟨"java/lang/String", "checkBoundsBeginEnd", "(III)V"⟩
def RJ4 : String := "java/lang/StringBuilder"
def TJ4 : u_T := fun k => match k with
  | 0 => ("java/lang/AbstractStringBuilder", "value", "[B", false)
  | 1 => ("java/lang/AbstractStringBuilder", "coder", "B", false)
  | 2 => ("java/lang/AbstractStringBuilder", "maybeLatin1", "Z", false)
  | _ => ("java/lang/AbstractStringBuilder", "count", "I", false)
def tyJ4 : Nat → FieldType := fun k => match k with
  | 0 => .array .byte
  | 1 => .byte
  | 2 => .boolean
  | _ => .int
abbrev wsJ40 : List Cond := u_ws "java/lang/StringBuilder" TJ4 4
theorem nmJ4 : ∀ a, a < 4 → ∀ b, b < 4 → a ≠ b → (TJ4 a).2.1 ≠ (TJ4 b).2.1 := by decide +kernel
theorem tyJ4_ok : ∀ k, k < 4 → parseFieldDescriptor (TJ4 k).2.2.1 = some (tyJ4 k) := by decide +kernel
abbrev cJ4_init_da8c8 : ByteArray := prog_22_method_1_code
def yJ4_init_da8c8 : MethodName := ⟨"java/lang/StringBuilder", "<init>", "()V"⟩
abbrev cJ4_append_cf468 : ByteArray := prog_22_method_14_code
def yJ4_append_cf468 : MethodName := ⟨"java/lang/StringBuilder", "append", "(C)Ljava/lang/StringBuilder;"⟩
abbrev cJ4_append_bf812 : ByteArray := prog_22_method_15_code
def yJ4_append_bf812 : MethodName := ⟨"java/lang/StringBuilder", "append", "(I)Ljava/lang/StringBuilder;"⟩
abbrev cJ4_charAt_5068e : ByteArray := prog_22_method_88_code
def yJ4_charAt_5068e : MethodName := ⟨"java/lang/StringBuilder", "charAt", "(I)C"⟩
abbrev cJ4_setLength_d00df : ByteArray := prog_22_method_89_code
def yJ4_setLength_d00df : MethodName := ⟨"java/lang/StringBuilder", "setLength", "(I)V"⟩
abbrev cJ4_length_8abf5 : ByteArray := prog_22_method_93_code
def yJ4_length_8abf5 : MethodName := ⟨"java/lang/StringBuilder", "length", "()I"⟩
def RJ1 : String := "java/lang/StringLatin1"
def TJ1 : u_T := fun k => match k with
  | _ => ("", "", "", false)
def tyJ1 : Nat → FieldType := fun k => match k with
  | _ => .int
abbrev wsJ10 : List Cond := u_ws "java/lang/StringLatin1" TJ1 0
theorem nmJ1 : ∀ a, a < 0 → ∀ b, b < 0 → a ≠ b → (TJ1 a).2.1 ≠ (TJ1 b).2.1 := by decide +kernel
theorem tyJ1_ok : ∀ k, k < 0 → parseFieldDescriptor (TJ1 k).2.2.1 = some (tyJ1 k) := by decide +kernel
abbrev cJ1_charAt_3b067 : ByteArray := prog_23_method_2_code
def yJ1_charAt_3b067 : MethodName := ⟨"java/lang/StringLatin1", "charAt", "([BI)C"⟩
abbrev cJ1_canEncode_fc78d : ByteArray := prog_23_method_3_code
def yJ1_canEncode_fc78d : MethodName := ⟨"java/lang/StringLatin1", "canEncode", "(C)Z"⟩
abbrev cJ1_fillNull_b72d1 : ByteArray := prog_23_method_48_code
def yJ1_fillNull_b72d1 : MethodName := ⟨"java/lang/StringLatin1", "fillNull", "([BII)V"⟩
abbrev cJ1_inflate_0e8fd : ByteArray := prog_23_method_50_code
def yJ1_inflate_0e8fd : MethodName := ⟨"java/lang/StringLatin1", "inflate", "([BI[BII)V"⟩
def RJ2 : String := "java/lang/StringUTF16"
def TJ2 : u_T := fun k => match k with
  | _ => ("", "", "", false)
def tyJ2 : Nat → FieldType := fun k => match k with
  | _ => .int
abbrev wsJ20 : List Cond := u_ws "java/lang/StringUTF16" TJ2 0
theorem nmJ2 : ∀ a, a < 0 → ∀ b, b < 0 → a ≠ b → (TJ2 a).2.1 ≠ (TJ2 b).2.1 := by decide +kernel
theorem tyJ2_ok : ∀ k, k < 0 → parseFieldDescriptor (TJ2 k).2.2.1 = some (tyJ2 k) := by decide +kernel
abbrev cJ2_newBytesFor_77867 : ByteArray := prog_24_method_2_code
def yJ2_newBytesFor_77867 : MethodName := ⟨"java/lang/StringUTF16", "newBytesFor", "(I)[B"⟩
abbrev cJ2_newBytesLength_0f7a4 : ByteArray := prog_24_method_3_code
def yJ2_newBytesLength_0f7a4 : MethodName := ⟨"java/lang/StringUTF16", "newBytesLength", "(I)I"⟩
abbrev cJ2_putChar_b72d1 : ByteArray := prog_24_method_4_code
def yJ2_putChar_b72d1 : MethodName := ⟨"java/lang/StringUTF16", "putChar", "([BII)V"⟩
abbrev cJ2_getChar_3b067 : ByteArray := prog_24_method_5_code
def yJ2_getChar_3b067 : MethodName := ⟨"java/lang/StringUTF16", "getChar", "([BI)C"⟩
abbrev cJ2_length_9d52b : ByteArray := prog_24_method_6_code
def yJ2_length_9d52b : MethodName := ⟨"java/lang/StringUTF16", "length", "([B)I"⟩
abbrev cJ2_fillNull_b72d1 : ByteArray := prog_24_method_70_code
def yJ2_fillNull_b72d1 : MethodName := ⟨"java/lang/StringUTF16", "fillNull", "([BII)V"⟩
abbrev cJ2_putCharSB_b72d1 : ByteArray := prog_24_method_71_code
def yJ2_putCharSB_b72d1 : MethodName := ⟨"java/lang/StringUTF16", "putCharSB", "([BII)V"⟩
abbrev cJ2_getChars_46870 : ByteArray := prog_24_method_77_code
def yJ2_getChars_46870 : MethodName := ⟨"java/lang/StringUTF16", "getChars", "(III[B)I"⟩
abbrev cJ2_charAt_3b067 : ByteArray := prog_24_method_83_code
def yJ2_charAt_3b067 : MethodName := ⟨"java/lang/StringUTF16", "charAt", "([BI)C"⟩
abbrev cJ2_inflate_0e8fd : ByteArray := prog_24_method_86_code
def yJ2_inflate_0e8fd : MethodName := ⟨"java/lang/StringUTF16", "inflate", "([BI[BII)V"⟩
abbrev cJ2_getChars_ba4f3 : ByteArray := prog_24_method_89_code
def yJ2_getChars_ba4f3 : MethodName := ⟨"java/lang/StringUTF16", "getChars", "(II[B)I"⟩
abbrev cJ2_checkIndex_2214a : ByteArray := prog_24_method_91_code
def yJ2_checkIndex_2214a : MethodName := ⟨"java/lang/StringUTF16", "checkIndex", "(I[B)V"⟩
abbrev cJ2_checkBoundsBeginEnd_d044e : ByteArray := prog_24_method_93_code
def yJ2_checkBoundsBeginEnd_d044e : MethodName := ⟨"java/lang/StringUTF16", "checkBoundsBeginEnd", "(II[B)V"⟩
abbrev cJ2_checkBoundsOffCount_d044e : ByteArray := prog_24_method_94_code
def yJ2_checkBoundsOffCount_d044e : MethodName := ⟨"java/lang/StringUTF16", "checkBoundsOffCount", "(II[B)V"⟩
def RJ10 : String := "java/lang/System"
def TJ10 : u_T := fun k => match k with
  | _ => ("", "", "", false)
def tyJ10 : Nat → FieldType := fun k => match k with
  | _ => .int
abbrev wsJ100 : List Cond := u_ws "java/lang/System" TJ10 0
theorem nmJ10 : ∀ a, a < 0 → ∀ b, b < 0 → a ≠ b → (TJ10 a).2.1 ≠ (TJ10 b).2.1 := by decide +kernel
theorem tyJ10_ok : ∀ k, k < 0 → parseFieldDescriptor (TJ10 k).2.2.1 = some (tyJ10 k) := by decide +kernel
def RJxfd54e : String := "java/lang/constant/Constable"
def TJxfd54e : u_T := fun k => match k with
  | _ => ("", "", "", false)
def tyJxfd54e : Nat → FieldType := fun k => match k with
  | _ => .int
abbrev wsJxfd54e0 : List Cond := u_ws "java/lang/constant/Constable" TJxfd54e 0
theorem nmJxfd54e : ∀ a, a < 0 → ∀ b, b < 0 → a ≠ b → (TJxfd54e a).2.1 ≠ (TJxfd54e b).2.1 := by decide +kernel
theorem tyJxfd54e_ok : ∀ k, k < 0 → parseFieldDescriptor (TJxfd54e k).2.2.1 = some (tyJxfd54e k) := by decide +kernel
def RJx3cf43 : String := "java/lang/constant/ConstantDesc"
def TJx3cf43 : u_T := fun k => match k with
  | _ => ("", "", "", false)
def tyJx3cf43 : Nat → FieldType := fun k => match k with
  | _ => .int
abbrev wsJx3cf430 : List Cond := u_ws "java/lang/constant/ConstantDesc" TJx3cf43 0
theorem nmJx3cf43 : ∀ a, a < 0 → ∀ b, b < 0 → a ≠ b → (TJx3cf43 a).2.1 ≠ (TJx3cf43 b).2.1 := by decide +kernel
theorem tyJx3cf43_ok : ∀ k, k < 0 → parseFieldDescriptor (TJx3cf43 k).2.2.1 = some (tyJx3cf43 k) := by decide +kernel
def RJ7 : String := "java/util/Arrays"
def TJ7 : u_T := fun k => match k with
  | _ => ("", "", "", false)
def tyJ7 : Nat → FieldType := fun k => match k with
  | _ => .int
abbrev wsJ70 : List Cond := u_ws "java/util/Arrays" TJ7 0
theorem nmJ7 : ∀ a, a < 0 → ∀ b, b < 0 → a ≠ b → (TJ7 a).2.1 ≠ (TJ7 b).2.1 := by decide +kernel
theorem tyJ7_ok : ∀ k, k < 0 → parseFieldDescriptor (TJ7 k).2.2.1 = some (tyJ7 k) := by decide +kernel
abbrev cJ7_rangeCheck_23922 : ByteArray := prog_26_method_30_code
def yJ7_rangeCheck_23922 : MethodName := ⟨"java/util/Arrays", "rangeCheck", "(III)V"⟩
abbrev cJ7_fill_53178 : ByteArray := prog_26_method_103_code
def yJ7_fill_53178 : MethodName := ⟨"java/util/Arrays", "fill", "([II)V"⟩
abbrev cJ7_fill_eb02e : ByteArray := prog_26_method_110_code
def yJ7_fill_eb02e : MethodName := ⟨"java/util/Arrays", "fill", "([BIIB)V"⟩
abbrev cJ7_copyOf_9075b : ByteArray := prog_26_method_121_code
def yJ7_copyOf_9075b : MethodName := ⟨"java/util/Arrays", "copyOf", "([BI)[B"⟩
def RJ8 : String := "jdk/internal/util/ArraysSupport"
def TJ8 : u_T := fun k => match k with
  | _ => ("", "", "", false)
def tyJ8 : Nat → FieldType := fun k => match k with
  | _ => .int
abbrev wsJ80 : List Cond := u_ws "jdk/internal/util/ArraysSupport" TJ8 0
theorem nmJ8 : ∀ a, a < 0 → ∀ b, b < 0 → a ≠ b → (TJ8 a).2.1 ≠ (TJ8 b).2.1 := by decide +kernel
theorem tyJ8_ok : ∀ k, k < 0 → parseFieldDescriptor (TJ8 k).2.2.1 = some (tyJ8 k) := by decide +kernel
abbrev cJ8_newLength_cabcc : ByteArray := prog_27_method_27_code
def yJ8_newLength_cabcc : MethodName := ⟨"jdk/internal/util/ArraysSupport", "newLength", "(III)I"⟩
abbrev cJ8_hugeLength_7cf53 : ByteArray := prog_27_method_28_code
def yJ8_hugeLength_7cf53 : MethodName := ⟨"jdk/internal/util/ArraysSupport", "hugeLength", "(II)I"⟩
def RJ3 : String := "jdk/internal/util/Preconditions"
def TJ3 : u_T := fun k => match k with
  | _ => ("", "", "", false)
def tyJ3 : Nat → FieldType := fun k => match k with
  | _ => .int
abbrev wsJ30 : List Cond := u_ws "jdk/internal/util/Preconditions" TJ3 0
theorem nmJ3 : ∀ a, a < 0 → ∀ b, b < 0 → a ≠ b → (TJ3 a).2.1 ≠ (TJ3 b).2.1 := by decide +kernel
theorem tyJ3_ok : ∀ k, k < 0 → parseFieldDescriptor (TJ3 k).2.2.1 = some (tyJ3 k) := by decide +kernel
abbrev cJ3_checkIndex_8e157 : ByteArray := prog_28_method_11_code
def yJ3_checkIndex_8e157 : MethodName := ⟨"jdk/internal/util/Preconditions", "checkIndex", "(IILjava/util/function/BiFunction;)I"⟩
abbrev cJ3_checkFromToIndex_8c36e : ByteArray := prog_28_method_12_code
def yJ3_checkFromToIndex_8c36e : MethodName := ⟨"jdk/internal/util/Preconditions", "checkFromToIndex", "(IIILjava/util/function/BiFunction;)I"⟩
abbrev cJ3_checkFromIndexSize_8c36e : ByteArray := prog_28_method_13_code
def yJ3_checkFromIndexSize_8c36e : MethodName := ⟨"jdk/internal/util/Preconditions", "checkFromIndexSize", "(IIILjava/util/function/BiFunction;)I"⟩
def RL : String := "UrnHeapLaw"
abbrev cL_law : ByteArray := code
def yL_law : MethodName := ⟨"UrnHeapLaw", "law", "([I)Z"⟩
abbrev vwCl : List vw_C := [("java/lang/StringBuilder", TJ4, 4), ("UrnHeap$Hands", TX1, 2), ("UrnHeap$Heap", TX2, 17), ("UrnHeap$History", TX3, 6), ("UrnHeap$Line", TX5, 1), ("UrnHeap$Orders", TX6, 8), ("UrnHeap$Paths", TX7, 2), ("UrnHeap$Refusals", TX8, 2), ("UrnHeap$Row", TX9, 2), ("UrnHeap$Sexton", TX10, 2), ("UrnHeap", TX11, 8), ("UrnHeapModel", TX12, 20)]
end
section
/-! base: numbers, the memory, the bundle of a walk -/
abbrev mu_T : Type := Nat → Int → Int
def iI (x : Int) : Int32 := Int32.ofInt x
abbrev rg_ (x : Int) : Prop := -2147483648 ≤ x ∧ x ≤ 2147483647
theorem iI_add (a b : Int) : iI a + iI b = iI (a + b) := (Int32.ofInt_add a b).symm
theorem iI_sub (a b : Int) : iI a - iI b = iI (a - b) := (Int32.ofInt_sub a b).symm
theorem iI_mul (a b : Int) : iI a * iI b = iI (a * b) := (Int32.ofInt_mul a b).symm
theorem iI_neg (a : Int) : -iI a = iI (-a) := (Int32.ofInt_neg a).symm
theorem iI_toInt {a : Int} (h : rg_ a) : (iI a).toInt = a := Int32.toInt_ofInt_of_le (by omega) (by omega)
theorem iI_clamp {a : Int} (h : rg_ a) : (iI a).toNatClampNeg = a.toNat := Int32.toNatClampNeg_ofInt_of_le (by omega) (by omega)
theorem iI_lt {a b : Int} (ha : rg_ a) (hb : rg_ b) : iI a < iI b ↔ a < b := by rw [Int32.lt_iff_toInt_lt, iI_toInt ha, iI_toInt hb]
theorem iI_le {a b : Int} (ha : rg_ a) (hb : rg_ b) : iI a ≤ iI b ↔ a ≤ b := by rw [Int32.le_iff_toInt_le, iI_toInt ha, iI_toInt hb]
theorem iI_eq {a b : Int} (ha : rg_ a) (hb : rg_ b) : iI a = iI b ↔ a = b := by rw [← Int32.toInt_inj, iI_toInt ha, iI_toInt hb]
theorem iI_of (x : Int32) : iI x.toInt = x := Int32.ofInt_toInt x
theorem iI_rg (x : Int32) : rg_ x.toInt := ⟨Int32.le_toInt x, by have := Int32.toInt_lt x; omega⟩
theorem iI_in {i : Int} {n : Nat} (h0 : 0 ≤ i) (h1 : i < n) (hn : n < 2147483648) : vp_in (iI i) n := by
  rw [vp_in_iff, iI_toInt (by omega)]
  exact ⟨h0, h1⟩
theorem iI_nat (n : Nat) : Int32.ofNat n = iI n := rfl
-- the memory: a row of numbers for each object or array
def ur_ (f : Int → Int) (i v : Int) : Int → Int := fun j => if j = i then v else f j
def um_ (μ : mu_T) (k : Nat) (f : Int → Int) : mu_T := fun q => if q = k then f else μ q
def st_ (μ : mu_T) (k : Nat) (i v : Int) : mu_T := um_ μ k (ur_ (μ k) i v)
theorem um_self (μ : mu_T) (k : Nat) (f : Int → Int) : um_ μ k f k = f := if_pos rfl
theorem um_ne {μ : mu_T} {k q : Nat} {f : Int → Int} (h : q ≠ k) : um_ μ k f q = μ q := if_neg h
-- the words of a decompiled method
def lt_ {α : Type} (a b : Int) (t f : Option α) : Option α := if rg_ a ∧ rg_ b then (if a < b then t else f) else none
def eq_ {α : Type} (a b : Int) (t f : Option α) : Option α := if a = b then t else if rg_ a ∧ rg_ b then f else none
def rd_ {α : Type} (μ : mu_T) (k n : Nat) (i : Int) (f : Int → Option α) : Option α := if 0 ≤ i ∧ i < n then f (μ k i) else none
def wr_ {α : Type} (μ : mu_T) (k n : Nat) (i v : Int) (f : mu_T → Option α) : Option α := if 0 ≤ i ∧ i < n then f (st_ μ k i v) else none
def wf_ {α : Type} (μ : mu_T) (k : Nat) (i v : Int) (f : mu_T → Option α) : Option α := f (st_ μ k i v)
def wz_ {α : Type} (μ : mu_T) (k : Nat) (i v : Int) (f : mu_T → Option α) : Option α := if v = 0 ∨ v = 1 then f (st_ μ k i v) else none
def gd_ {α : Type} (c : Prop) [Decidable c] (x : Option α) : Option α := if c then x else none
def nm_ {α : Type} (v : Int) (f : Int → Option α) : Option α := f v
def dv_ {α : Type} (a b : Int) (f : Int → Option α) : Option α := if rg_ a ∧ rg_ b ∧ b ≠ 0 then f (a.tdiv b) else none
def rm_ {α : Type} (a b : Int) (f : Int → Option α) : Option α := if rg_ a ∧ rg_ b ∧ b ≠ 0 then f (a.tmod b) else none
def bd_ {α β : Type} (x : Option α) (f : α → Option β) : Option β := match x with
  | none => none
  | some a => f a
def bp_ {α β γ : Type} (x : Option (α × β)) (f : α → β → Option γ) : Option γ := match x with
  | none => none
  | some (a, b) => f a b
def rz_ (v : Int) (μ : mu_T) : Option (Int × mu_T) := if v = 0 ∨ v = 1 then some (v, μ) else none
def ry_ (v : Int) : Option Int := if v = 0 ∨ v = 1 then some v else none
def jn_ {φ β : Type} (f : φ) (k : φ → Option β) : Option β := k f
def an_ (a b : Int) : Int := (iI a &&& iI b).toInt
def or_ (a b : Int) : Int := (iI a ||| iI b).toInt
def xo_ (a b : Int) : Int := (iI a ^^^ iI b).toInt
def sl_ (a b : Int) : Int := (iI a <<< (iI b &&& 31)).toInt
def sr_ (a b : Int) : Int := (iI a >>> (iI b &&& 31)).toInt
def su_ (a b : Int) : Int := (((iI a).toUInt32 >>> ((iI b).toUInt32 &&& Int32.toUInt32 31)).toInt32).toInt
def i2c_ (a : Int) : Int := (((iI a).toUInt32 % 65536).toInt32).toInt
def i2b_ (a : Int) : Int := ((iI a).toInt8.toInt32).toInt
theorem iI_div {a b : Int} (ha : rg_ a) (hb : rg_ b) : iI (a.tdiv b) = iI a / iI b := by
  have h := Int32.ofInt_tdiv (a := a) (b := b) (by show Int32.minValue.toInt ≤ a; have : Int32.minValue.toInt = -2147483648 := rfl; omega) (by have : Int32.maxValue.toInt = 2147483647 := rfl; omega) (by have : Int32.minValue.toInt = -2147483648 := rfl; omega) (by have : Int32.maxValue.toInt = 2147483647 := rfl; omega)
  exact h
theorem iI_rem {a b : Int} (ha : rg_ a) (hb : rg_ b) : iI (a.tmod b) = iI a - iI a / iI b * iI b := by
  rw [← iI_div ha hb, iI_mul, iI_sub]
  congr 1
  have := Int.tmod_add_mul_tdiv a b
  have h2 : b * a.tdiv b = a.tdiv b * b := Int.mul_comm _ _
  omega
theorem lt_e {α : Type} {a b : Int} {t f : Option α} {r : α} (h : lt_ a b t f = some r) : (rg_ a ∧ rg_ b) ∧ ((a < b ∧ t = some r) ∨ (¬ a < b ∧ f = some r)) := by
  unfold lt_ at h
  split at h
  next hr =>
    refine ⟨hr, ?_⟩
    split at h
    next hc => exact Or.inl ⟨hc, h⟩
    next hc => exact Or.inr ⟨hc, h⟩
  next => cases h
theorem eq_e {α : Type} {a b : Int} {t f : Option α} {r : α} (h : eq_ a b t f = some r) : (a = b ∧ t = some r) ∨ ((iI a ≠ iI b) ∧ a ≠ b ∧ f = some r) := by
  unfold eq_ at h
  split at h
  next hc => exact Or.inl ⟨hc, h⟩
  next hc =>
    split at h
    next hr => exact Or.inr ⟨fun q => hc ((iI_eq hr.1 hr.2).mp q), hc, h⟩
    next => cases h
theorem ck_e {α : Type} {c : Prop} [Decidable c] {x : Option α} {r : α} (h : (if c then x else none) = some r) : c ∧ x = some r := by
  split at h
  next hc => exact ⟨hc, h⟩
  next => cases h
theorem bd_e {α β : Type} {x : Option α} {f : α → Option β} {r : β} (h : bd_ x f = some r) : ∃ a, x = some a ∧ f a = some r := by
  unfold bd_ at h
  split at h
  next => cases h
  next a => exact ⟨a, rfl, h⟩
theorem bp_e {α β γ : Type} {x : Option (α × β)} {f : α → β → Option γ} {r : γ} (h : bp_ x f = some r) : ∃ a b, x = some (a, b) ∧ f a b = some r := by
  unfold bp_ at h
  split at h
  next => cases h
  next a b => exact ⟨a, b, rfl, h⟩
-- the world: N cells, cell k at the address ad k, made of the row μ k
def wl_ (N : Nat) (ad : Nat → Nat) (ce : Nat → (Int → Int) → va_E) (μ : mu_T) : va_W := (List.range N).map (fun k => (ad k, ce k (μ k)))
theorem wl_get {N : Nat} {ad : Nat → Nat} {ce : Nat → (Int → Int) → va_E} {μ : mu_T} {k : Nat} (h : k < N) : (wl_ N ad ce μ)[k]? = some (ad k, ce k (μ k)) := by
  unfold wl_
  rw [List.getElem?_map, List.getElem?_range h]
  rfl
theorem wl_set {N : Nat} {ad : Nat → Nat} {ce : Nat → (Int → Int) → va_E} {μ : mu_T} {k : Nat} (f : Int → Int) : (wl_ N ad ce μ).set k (ad k, ce k f) = wl_ N ad ce (um_ μ k f) := by
  apply List.ext_getElem?
  intro i
  by_cases hi : i < N
  · rw [wl_get hi]
    by_cases hik : i = k
    · subst hik
      rw [List.getElem?_set_self (by unfold wl_; simpa using hi), um_self]
    · rw [List.getElem?_set_ne (Ne.symm hik), wl_get hi, um_ne hik]
  · rw [List.getElem?_eq_none (by unfold wl_; simp; omega), List.getElem?_eq_none (by unfold wl_; simp; omega)]
end
section
/-! the bundle of a walk, contracts, and a row for each instruction over a world of N cells -/
abbrev gp_ : Type := va_G × (Nat → Nat) × Nat
abbrev ct_ : Type := Program × Launch × Env × Room × State × MethodId × Array Value × List Frame × Method × Code × (State → Prop) × (Nat → Prop) × Nat
def gT_ : List Cond := lw_tbl.filter goodWord
theorem gm_ (i : Nat) {w : Cond} (h : (decide (lw_tbl[i]? = some w) && goodWord w) = true) : w ∈ gT_ := by
  simp only [Bool.and_eq_true, decide_eq_true_eq] at h
  exact List.mem_filter.mpr ⟨List.mem_of_getElem? h.1, h.2⟩
theorem gl_ {ws : List Cond} (h : ws.all (fun w => decide (w ∈ lw_tbl) && goodWord w) = true) : ∀ w ∈ ws, w ∈ gT_ := fun w hw => by
  have h1 := List.all_eq_true.mp h w hw
  simp only [Bool.and_eq_true, decide_eq_true_eq] at h1
  exact List.mem_filter.mpr ⟨h1.1, h1.2⟩
theorem gT_tbl {w : Cond} (h : w ∈ gT_) : w ∈ lw_tbl := (List.mem_filter.mp h).1
theorem gT_good {w : Cond} (h : w ∈ gT_) : (w.onTables && w.keeps) = true ∨ ∃ ty, w = .arrayClass ty := good_of_word (List.mem_filter.mp h).2
def tys_ (D : va_G) : List (ClassId × FieldType) := [(D.1 100, .int), (D.1 101, .byte), (D.1 102, .object "UrnHeap$Heap"), (D.1 103, .object "UrnHeap$Kind")]
/-- the String constants: the forms of the orders, then the reference's words -/
def skl_ : List (List Int) := [[117, 114, 110], [117, 114, 110, 33], [116, 105, 101, 32, 35, 46, 36, 61, 35], [117, 110, 116, 105, 101, 32, 35, 46, 36], [110, 97, 109, 101, 32, 64, 61, 35], [100, 114, 111, 112, 32, 64], [119, 101, 97, 107, 32, 35, 61, 35], [114, 111, 117, 110, 100], [115, 116, 101, 112, 32, 35], [114, 105, 116, 101], [117, 114, 110], [116, 105, 101, 32], [46], [61], [117, 110, 116, 105, 101, 32], [110, 97, 109, 101, 32], [100, 114, 111, 112, 32], [119, 101, 97, 107, 32], [114, 111, 117, 110, 100], [115, 116, 101, 112, 32], [114, 105, 116, 101]]
def swl_ : List (Nat × String) := [(215, "urn"), (217, "tie "), (210, "."), (222, "="), (224, "untie "), (226, "name "), (231, "drop "), (233, "weak "), (235, "round"), (237, "step "), (239, "rite")]
def nwl_ : List (String × Nat × MethodName) := [("UrnHeap$Heap", 35, ⟨"UrnHeap$Row", "<init>", "()V"⟩), ("UrnHeap", 12, ⟨"UrnHeap$Refusals", "<init>", "()V"⟩), ("UrnHeap", 57, ⟨"UrnHeap$Orders", "<init>", "()V"⟩), ("UrnHeap", 64, ⟨"UrnHeap$Line", "<init>", "()V"⟩), ("UrnHeap$Hands", 58, ⟨"UrnHeap", "isSlot", "(I)Z"⟩), ("UrnHeap$Heap", 88, ⟨"UrnHeap", "isCell", "(I)Z"⟩), ("UrnHeap$Heap", 91, ⟨"UrnHeap", "isSlot", "(I)Z"⟩), ("UrnHeap$Hands", 77, ⟨"UrnHeap", "isName", "(I)Z"⟩), ("UrnHeap$Sexton", 60, ⟨"UrnHeap", "isCell", "(I)Z"⟩), ("UrnHeap$Paths", 83, ⟨"UrnHeap", "isCell", "(I)Z"⟩), ("UrnHeap$Line", 42, ⟨"UrnHeap", "isCell", "(I)Z"⟩)]
/-- what no cell of the world is, and nobody writes: by the state U, with the heap H -/
def gkS_ (G : gp_) (U : State) (H : Heap) : Prop := ∀ i : Nat, i < 21 → vk_S 1 [(skl_.getD i []).length] [(skl_.getD i []).map iI] (fun _ => G.2.1 (200 + i)) (fun _ => G.2.1 (300 + i)) (fun q => G.2.2 ≤ q) U H
def gkE_ (G : gp_) (U : State) (H : Heap) : Prop := ∀ i : Nat, i < 10 → va_O "UrnHeap$Kind" (G.2.1 (100 + i)) (fun q => G.2.2 ≤ q) U H ∧ va_OF "java/lang/Enum" "ordinal" "I" (.int (iI i)) (G.2.1 (100 + i)) (fun q => G.2.2 ≤ q) U H ∧ va_OF "UrnHeap$Kind" "form" "Ljava/lang/String;" (.ref (G.2.1 (200 + i))) (G.2.1 (100 + i)) (fun q => G.2.2 ≤ q) U H
def gkZ_ (G : gp_) (U : State) (H : Heap) : Prop := va_Z "java/lang/String" "COMPACT_STRINGS" "Z" (.int (iI 1)) (fun q => G.2.2 ≤ q) U H ∧ va_Z "jdk/internal/util/Preconditions" "SIOOBE_FORMATTER" "Ljava/util/function/BiFunction;" (.ref (G.2.1 5)) (fun q => G.2.2 ≤ q) U H ∧ va_Z "UrnHeap$Kind" "ALL" "[LUrnHeap$Kind;" (.ref (G.2.1 2)) (fun q => G.2.2 ≤ q) U H ∧ va_Z "UrnHeap$1" "$SwitchMap$UrnHeap$Kind" "[I" (.ref (G.2.1 1)) (fun q => G.2.2 ≤ q) U H ∧ va_Z "java/lang/Integer" "DigitOnes" "[B" (.ref (G.2.1 3)) (fun q => G.2.2 ≤ q) U H ∧ va_Z "java/lang/Integer" "DigitTens" "[B" (.ref (G.2.1 4)) (fun q => G.2.2 ≤ q) U H
def gkT_ (G : gp_) (U : State) (H : Heap) : Prop := va_T (.object "UrnHeap$Kind") (G.2.1 2) 10 (fun i => .ref (G.2.1 (100 + i))) (fun q => G.2.2 ≤ q) U H ∧ va_T .int (G.2.1 1) 10 (fun i => .int (iI ((i : Int) + 1))) (fun q => G.2.2 ≤ q) U H ∧ va_T .byte (G.2.1 3) 100 (fun i => .int (iI (48 + (i : Int) % 10))) (fun q => G.2.2 ≤ q) U H ∧ va_T .byte (G.2.1 4) 100 (fun i => .int (iI (48 + (i : Int) / 10))) (fun q => G.2.2 ≤ q) U H
def gkN_ (G : gp_) (U : State) : Prop := (∀ w ∈ nwl_, va_Nw (.methodLinkNest w.1 w.2.1 w.2.2 "UrnHeap") U) ∧ va_Nw (.fieldLinkNest "UrnHeap$Orders" 60 "UrnHeap$Kind" "ALL" "[LUrnHeap$Kind;" "UrnHeap") U ∧ ∀ (i : Nat) (w : Nat × String), swl_[i]? = some w → vk_R "UrnHeapModel" w.1 w.2 (G.2.1 (210 + i)) U
def gk_ (G : gp_) (U : State) (H : Heap) : Prop := gkS_ G U H ∧ gkE_ G U H ∧ gkZ_ G U H ∧ gkT_ G U H ∧ gkN_ G U
theorem gk_alike {G : gp_} {u U : State} {H : Heap} (hvm : u.vm.Alike U.vm) (hN : gkN_ G U) (h : gk_ G u H) : gk_ G U H :=
  ⟨fun i hi => vk_S.moved hvm (h.1 i hi), fun i hi => ⟨va_O.moved hvm (h.2.1 i hi).1, va_OF.moved hvm (h.2.1 i hi).2.1, va_OF.moved hvm (h.2.1 i hi).2.2⟩,
   ⟨va_Z.moved hvm h.2.2.1.1, va_Z.moved hvm h.2.2.1.2.1, va_Z.moved hvm h.2.2.1.2.2.1, va_Z.moved hvm h.2.2.1.2.2.2.1, va_Z.moved hvm h.2.2.1.2.2.2.2.1, va_Z.moved hvm h.2.2.1.2.2.2.2.2⟩,
   ⟨va_T.moved hvm h.2.2.2.1.1, va_T.moved hvm h.2.2.2.1.2.1, va_T.moved hvm h.2.2.2.1.2.2.1, va_T.moved hvm h.2.2.2.1.2.2.2⟩, hN⟩
theorem gk_warm {G : gp_} {u U : State} {H : Heap} (hW : u.WarmedH U.vm) (h : gk_ G u H) : gk_ G U H :=
  gk_alike hW.alike ⟨fun w hw => va_Nw.warmM hW (h.2.2.2.2.1 w hw), va_Nw.warmF hW h.2.2.2.2.2.1, fun i w hw => vk_R.warm hW (h.2.2.2.2.2.2 i w hw)⟩ h
theorem gk_same {G : gp_} {u U : State} {H : Heap} (hv : U.vm = u.vm) (h : gk_ G u H) : gk_ G U H :=
  gk_alike (by rw [hv]; exact Vm.Alike.refl _) ⟨fun w hw => va_Nw.same rfl hv.symm (h.2.2.2.2.1 w hw), va_Nw.same rfl hv.symm h.2.2.2.2.2.1, fun i w hw => vk_R.same hv (h.2.2.2.2.2.2 i w hw)⟩ h
theorem gk_kept {G : gp_} {U : State} {H H1 : Heap} (h : gk_ G U H) (hq : ∀ a : Nat, a < H.size → ¬ G.2.2 ≤ a → H1[a]? = H[a]?) : gk_ G U H1 :=
  ⟨fun i hi => vk_S.kept (h.1 i hi) hq, fun i hi => ⟨va_O.kept (h.2.1 i hi).1 hq, va_OF.kept (h.2.1 i hi).2.1 hq, va_OF.kept (h.2.1 i hi).2.2 hq⟩,
   ⟨va_Z.kept h.2.2.1.1 hq, va_Z.kept h.2.2.1.2.1 hq, va_Z.kept h.2.2.1.2.2.1 hq, va_Z.kept h.2.2.1.2.2.2.1 hq, va_Z.kept h.2.2.1.2.2.2.2.1 hq, va_Z.kept h.2.2.1.2.2.2.2.2 hq⟩,
   ⟨va_T.kept h.2.2.2.1.1 hq, va_T.kept h.2.2.2.1.2.1 hq, va_T.kept h.2.2.2.1.2.2.1 hq, va_T.kept h.2.2.2.1.2.2.2 hq⟩, h.2.2.2.2⟩
def cx_ (G : gp_) (X : ct_) (cc : ByteArray) (own : String) (rm : Room) (ret : Option FieldType) (nl : Nat) : Prop := match X with
  | (p, _, _, R, s, m, args, _, meth, c, _, A, nL) => p.tables.exec = Jvm.exec ∧ c.code = cc ∧ (∀ w ∈ gT_, w.before args s = true) ∧ s.vm.findClass own = some m.cls ∧ va_K G.1 vwCl (tys_ G.1) s ∧ (∀ q, s.heap.size ≤ q → A q) ∧ c.maxLocals = nL ∧ meth.locks = false ∧ (∀ q, A q → G.2.2 ≤ q) ∧ R = rm ∧ meth.sig.returnType = ret ∧ gk_ G s s.heap ∧ nL = nl
def wx_ (G : gp_) (X : ct_) (N : Nat) (ad : Nat → Nat) (ce : Nat → (Int → Int) → va_E) (μ : mu_T) (k n pc : Nat) (lv : List (Nat × Value)) (st : List Value) : Prop := match X with
  | (p, l, e, R, s, m, args, below, meth, c, Q, A, nL) => ∀ (H : Heap) (locs : List Loc) (ls : Array Slot), va_P G.1 vwCl (wl_ N ad ce μ) H → va_D A (wl_ N ad ce μ) → va_S A s.heap H locs → lv_has ls nL lv → W p l e R s m args below meth c H locs k n Q (F0 m pc ls st)
def po_ (G : gp_) (N : Nat) (ad : Nat → Nat) (ce : Nat → (Int → Int) → va_E) (A : Nat → Prop) (μ : mu_T) (t : State) : Prop := va_P G.1 vwCl (wl_ N ad ce μ) t.heap ∧ va_K G.1 vwCl (tys_ G.1) t ∧ va_D A (wl_ N ad ce μ)
def pr_ (G : gp_) (N : Nat) (ad : Nat → Nat) (ce : Nat → (Int → Int) → va_E) (μ : mu_T) (sz : Nat) (U : State) : Prop := U.heap.size = sz ∧ va_P G.1 vwCl (wl_ N ad ce μ) U.heap ∧ va_K G.1 vwCl (tys_ G.1) U ∧ va_D (fun q => G.2.2 ≤ q) (wl_ N ad ce μ) ∧ G.2.2 ≤ sz ∧ gk_ G U U.heap
def qi_ (G : gp_) (N : Nat) (ad : Nat → Nat) (ce : Nat → (Int → Int) → va_E) (A : Nat → Prop) (a : Int) (μ : mu_T) : Array Value → State → Outcome → State → Prop := va_Qi (fun (r : Int32) (_ : Unit) => r = iI a) (fun _ t => po_ G N ad ce A μ t) A
def qv_ (G : gp_) (N : Nat) (ad : Nat → Nat) (ce : Nat → (Int → Int) → va_E) (A : Nat → Prop) (μ : mu_T) : Array Value → State → Outcome → State → Prop := va_Qv (fun (_ : Unit) => True) (fun _ t => po_ G N ad ce A μ t) A
/-- a contract: int answers (boolean, char) -/
def mi_ (y : MethodName) (cc : ByteArray) (maxL : Nat) (ret : Option FieldType) (rm : Room) (G : gp_) (N : Nat) (ad : Nat → Nat) (ce : Nat → (Int → Int) → va_E) (av : List Value) (μ : mu_T) (a : Int) (μ' : mu_T) : Prop := ∀ (l : Launch) (sz : Nat), Met l y (Cond.code y cc maxL ret :: gT_) rm (va_Pc av (pr_ G N ad ce μ sz)) (qi_ G N ad ce (va_A (wl_ N ad ce μ) sz) a μ') rm.cells rm.slots (va_A (wl_ N ad ce μ) sz)
def mv_ (y : MethodName) (cc : ByteArray) (maxL : Nat) (rm : Room) (G : gp_) (N : Nat) (ad : Nat → Nat) (ce : Nat → (Int → Int) → va_E) (av : List Value) (μ : mu_T) (μ' : mu_T) : Prop := ∀ (l : Launch) (sz : Nat), Met l y (Cond.code y cc maxL none :: gT_) rm (va_Pc av (pr_ G N ad ce μ sz)) (qv_ G N ad ce (va_A (wl_ N ad ce μ) sz) μ') rm.cells rm.slots (va_A (wl_ N ad ce μ) sz)
def ei_ (G : gp_) (X : ct_) (N : Nat) (ad : Nat → Nat) (ce : Nat → (Int → Int) → va_E) (a : Int) (μ : mu_T) (rm : Room) : Prop := match X with
  | (_, _, _, _, s, _, args, below, _, _, Q, A, _) => Q = MQ below (qi_ G N ad ce A a μ) args s rm.cells rm.slots A
def ev_ (G : gp_) (X : ct_) (N : Nat) (ad : Nat → Nat) (ce : Nat → (Int → Int) → va_E) (μ : mu_T) (rm : Room) : Prop := match X with
  | (_, _, _, _, s, _, args, below, _, _, Q, A, _) => Q = MQ below (qv_ G N ad ce A μ) args s rm.cells rm.slots A
section MIN
variable {y : MethodName} {cc : ByteArray} {maxL : Nat} {ret : Option FieldType} {rm : Room} {G : gp_} {N : Nat} {ad : Nat → Nat} {ce : Nat → (Int → Int) → va_E} {av : List Value} {μ μ' : mu_T} {a : Int} {own : String} {lv : List (Nat × Value)}
theorem mi_in (hy : plainName y.cls = true) (hown : y.cls = own) (hlv : lv_args 0 av = lv) (hn : (lg_sl av).length ≤ maxL) (body : ∀ X : ct_, cx_ G X cc own rm ret maxL → ei_ G X N ad ce a μ' rm → wx_ G X N ad ce μ 0 0 0 lv []) : mi_ y cc maxL ret rm G N ad ce av μ a μ' := by
  intro l sz
  refine Met.ofW (cc := cc) (maxL := maxL) (ret := ret) hy rfl ?_
  intro p e s m args below meth c s₁ B hml hv
  obtain ⟨rfl, hsz, hP, hK, hD0, hbs, hg⟩ := hv
  subst hsz
  have hts := atoms_spec (ws := Cond.code y cc maxL ret :: gT_) B.pre
  have hfc : s.vm.findClass y.cls = some m.cls := findClass_of_methodNamed B.named
  rw [lg_entry_eq]
  have hl := lv_entry av hn
  rw [hlv] at hl
  have hAb : ∀ q, va_A (wl_ N ad ce μ) s.heap.size q → G.2.2 ≤ q := fun q h => by
    rcases h with ⟨k, e, h⟩ | h
    · exact hD0.2 k _ h
    · exact Nat.le_trans hbs h
  exact body (p, l, e, (headSpec (Cond.code y cc maxL ret :: gT_) rm).room, s, m, av.toArray, below, meth, c, _, va_A (wl_ N ad ce μ) s.heap.size, maxL)
    ⟨B.exec, B.bytes, fun w hw => hts w (List.mem_cons_of_mem _ hw), hown ▸ hfc, hK, fun q h => Or.inr h, hml, B.notSynchronized, hAb, rfl, B.returns, hg, rfl⟩ rfl s.heap [] _ hP (hD0.self (sz := s.heap.size)) va_S.rf hl
theorem mv_in (hy : plainName y.cls = true) (hown : y.cls = own) (hlv : lv_args 0 av = lv) (hn : (lg_sl av).length ≤ maxL) (body : ∀ X : ct_, cx_ G X cc own rm none maxL → ev_ G X N ad ce μ' rm → wx_ G X N ad ce μ 0 0 0 lv []) : mv_ y cc maxL rm G N ad ce av μ μ' := by
  intro l sz
  refine Met.ofW (cc := cc) (maxL := maxL) (ret := none) hy rfl ?_
  intro p e s m args below meth c s₁ B hml hv
  obtain ⟨rfl, hsz, hP, hK, hD0, hbs, hg⟩ := hv
  subst hsz
  have hts := atoms_spec (ws := Cond.code y cc maxL none :: gT_) B.pre
  have hfc : s.vm.findClass y.cls = some m.cls := findClass_of_methodNamed B.named
  rw [lg_entry_eq]
  have hl := lv_entry av hn
  rw [hlv] at hl
  have hAb : ∀ q, va_A (wl_ N ad ce μ) s.heap.size q → G.2.2 ≤ q := fun q h => by
    rcases h with ⟨k, e, h⟩ | h
    · exact hD0.2 k _ h
    · exact Nat.le_trans hbs h
  exact body (p, l, e, (headSpec (Cond.code y cc maxL none :: gT_) rm).room, s, m, av.toArray, below, meth, c, _, va_A (wl_ N ad ce μ) s.heap.size, maxL)
    ⟨B.exec, B.bytes, fun w hw => hts w (List.mem_cons_of_mem _ hw), hown ▸ hfc, hK, fun q h => Or.inr h, hml, B.notSynchronized, hAb, rfl, B.returns, hg, rfl⟩ rfl s.heap [] _ hP (hD0.self (sz := s.heap.size)) va_S.rf hl
end MIN
end
section
/-! rows over wx_ (written by wip/gen/rows.py) -/
/-- a switch on numbers: the branches by their values -/
def tw_ {α : Type} (a : Int) : List Int → List (Option α) → Option α → Option α
  | v :: vs, b :: bs, df => if a = v then b else tw_ a vs bs df
  | _, _, df => df
def ts_ {α : Type} (a : Int) (vs : List Int) (bs : List (Option α)) (df : Option α) : Option α := if rg_ a then tw_ a vs bs df else none
def ti_ (a : Int) : List Int → List Nat → Nat → Nat
  | v :: vs, t :: ts, tD => if a = v then t else ti_ a vs ts tD
  | _, _, tD => tD
def tk_ (pc : Nat) (dflt lo hi : Int) (offs : List Int) (vs : List Int) (ts : List Nat) (tD : Nat) : Bool :=
  decide ((pc : Int) + dflt = (tD : Int)) && decide (lo + offs.length = hi + 1) && decide (vs.length = ts.length) && (List.range offs.length).all (fun i => decide ((pc : Int) + offs.getD i 0 = ((ti_ (lo + i) vs ts tD : Nat) : Int))) && (List.range vs.length).all (fun i => decide (lo ≤ vs.getD i 0 ∧ vs.getD i 0 ≤ hi ∧ ti_ (vs.getD i 0) vs ts tD = ts.getD i 0))
theorem ti_no (a : Int) : ∀ (vs : List Int) (ts : List Nat) (tD : Nat), (∀ v ∈ vs, a ≠ v) → ti_ a vs ts tD = tD
  | [], _, _, _ => by unfold ti_; rfl
  | v :: vs, [], _, _ => by unfold ti_; rfl
  | v :: vs, t :: ts, tD, h => by
    unfold ti_
    rw [if_neg (h v List.mem_cons_self)]
    exact ti_no a vs ts tD (fun w hw => h w (List.mem_cons_of_mem _ hw))
theorem tk_p {pc : Nat} {dflt lo hi : Int} {offs vs : List Int} {ts : List Nat} {tD : Nat} (h : tk_ pc dflt lo hi offs vs ts tD = true) : (pc : Int) + dflt = (tD : Int) ∧ lo + offs.length = hi + 1 ∧ vs.length = ts.length ∧ (∀ i, i < offs.length → (pc : Int) + offs.getD i 0 = ((ti_ (lo + i) vs ts tD : Nat) : Int)) ∧ ∀ i, i < vs.length → lo ≤ vs.getD i 0 ∧ vs.getD i 0 ≤ hi ∧ ti_ (vs.getD i 0) vs ts tD = ts.getD i 0 := by
  simp only [tk_, Bool.and_eq_true, decide_eq_true_eq, List.all_eq_true, List.mem_range] at h
  exact ⟨h.1.1.1.1, h.1.1.1.2, h.1.1.2, h.1.2, h.2⟩
theorem tk_d {pc : Nat} {dflt lo hi : Int} {offs vs : List Int} {ts : List Nat} {tD : Nat} (h : tk_ pc dflt lo hi offs vs ts tD = true) : (pc : Int) + dflt = (tD : Int) := (tk_p h).1
theorem tk_o {pc : Nat} {dflt lo hi : Int} {offs vs : List Int} {ts : List Nat} {tD : Nat} (h : tk_ pc dflt lo hi offs vs ts tD = true) {a : Int} (ha : lo ≤ a ∧ a ≤ hi) (hno : ∀ v ∈ vs, a ≠ v) : ∃ off, offs[(a - lo).toNat]? = some off ∧ (pc : Int) + off = (tD : Int) := by
  obtain ⟨-, h2, -, h4, -⟩ := tk_p h
  have hi : (a - lo).toNat < offs.length := by omega
  refine ⟨offs.getD (a - lo).toNat 0, ?_, ?_⟩
  · rw [List.getD_eq_getElem?_getD, List.getElem?_eq_getElem hi]; rfl
  · rw [h4 _ hi, show lo + (((a - lo).toNat : Nat) : Int) = a by omega, ti_no a vs ts tD hno]
theorem tk_i {pc : Nat} {dflt lo hi : Int} {offs vs : List Int} {ts : List Nat} {tD : Nat} (h : tk_ pc dflt lo hi offs vs ts tD = true) {i : Nat} {a : Int} (ha : vs[i]? = some a) : ∃ t off, ts[i]? = some t ∧ offs[(a - lo).toNat]? = some off ∧ (pc : Int) + off = (t : Int) ∧ lo ≤ a ∧ a ≤ hi := by
  obtain ⟨-, h2, h3, h4, h5⟩ := tk_p h
  have hiv : i < vs.length := (List.getElem?_eq_some_iff.mp ha).1
  have hg : vs.getD i 0 = a := by rw [List.getD_eq_getElem?_getD, ha]; rfl
  obtain ⟨q1, q2, q3⟩ := h5 i hiv
  rw [hg] at q1 q2 q3
  have hi : (a - lo).toNat < offs.length := by omega
  refine ⟨ts.getD i 0, offs.getD (a - lo).toNat 0, ?_, ?_, ?_, q1, q2⟩
  · rw [List.getD_eq_getElem?_getD, List.getElem?_eq_getElem (by omega)]; rfl
  · rw [List.getD_eq_getElem?_getD, List.getElem?_eq_getElem hi]; rfl
  · rw [h4 _ hi, show lo + (((a - lo).toNat : Nat) : Int) = a by omega, q3]
theorem tw_e {α : Type} {a : Int} {r : α} {df : Option α} : ∀ (vs : List Int) (bs : List (Option α)), tw_ a vs bs df = some r → ((∀ v ∈ vs.take bs.length, a ≠ v) ∧ df = some r) ∨ ∃ (i : Nat) (b : Option α), vs[i]? = some a ∧ bs[i]? = some b ∧ b = some r
  | [], bs, h => Or.inl ⟨fun v hv => by simp at hv, by unfold tw_ at h; exact h⟩
  | v :: vs, [], h => Or.inl ⟨fun v hv => by simp at hv, by unfold tw_ at h; exact h⟩
  | v :: vs, b :: bs, h => by
    unfold tw_ at h
    split at h
    next hc => exact Or.inr ⟨0, b, by rw [hc]; rfl, rfl, h⟩
    next hc =>
      rcases tw_e vs bs h with ⟨h1, h2⟩ | ⟨i, b, h1, h2, h3⟩
      · refine Or.inl ⟨fun w hw => ?_, h2⟩
        rcases List.mem_cons.mp (by simpa using hw) with rfl | hw
        · exact hc
        · exact h1 w hw
      · exact Or.inr ⟨i + 1, b, h1, h2, h3⟩
theorem tw_e2 {α : Type} {a : Int} {r : α} {df : Option α} {vs : List Int} {bs : List (Option α)} (hl : vs.length = bs.length) (h : tw_ a vs bs df = some r) : ((∀ v ∈ vs, a ≠ v) ∧ df = some r) ∨ ∃ (i : Nat) (b : Option α), vs[i]? = some a ∧ bs[i]? = some b ∧ b = some r := by
  have h1 := tw_e vs bs h
  rw [← hl, List.take_length] at h1
  exact h1
section XR
variable {G : gp_} {X : ct_} {N : Nat} {ad : Nat → Nat} {ce : Nat → (Int → Int) → va_E} {μ : mu_T} {k n pc : Nat} {lv lv1 : List (Nat × Value)} {st stk : List Value} {cc : ByteArray} {own : String} {rm : Room} {ret : Option FieldType} {nl : Nat} {α : Type} {r : α}
theorem xx_iconst (C : cx_ G X cc own rm ret nl) (p1 : Nat) (hp : pc + 1 = p1) {v : Int} (d : decode cc pc = .ok (.iconst v, 1))  (h : wx_ G X N ad ce μ k n p1 lv (.int (iI v) :: st)) : wx_ G X N ad ce μ k n pc lv st := by
  obtain ⟨p, l, e, R, s, m, args, below, meth, c, Q, A, nL⟩ := X
  intro H locs ls hP hD hS hl
  subst hp
  refine lv_iconst C.1 C.2.1 d rfl ?_
  exact h H locs ls hP hD hS hl
theorem xx_bipush (C : cx_ G X cc own rm ret nl) (p1 : Nat) (hp : pc + 2 = p1) {v : Int} (d : decode cc pc = .ok (.bipush v, 2)) (hv : (Int8.ofInt v).toInt32 = iI v) (h : wx_ G X N ad ce μ k n p1 lv (.int (iI v) :: st)) : wx_ G X N ad ce μ k n pc lv st := by
  obtain ⟨p, l, e, R, s, m, args, below, meth, c, Q, A, nL⟩ := X
  intro H locs ls hP hD hS hl
  subst hp
  refine lv_bipush C.1 C.2.1 d hv ?_
  exact h H locs ls hP hD hS hl
theorem xx_sipush (C : cx_ G X cc own rm ret nl) (p1 : Nat) (hp : pc + 3 = p1) {v : Int} (d : decode cc pc = .ok (.sipush v, 3)) (hv : (Int16.ofInt v).toInt32 = iI v) (h : wx_ G X N ad ce μ k n p1 lv (.int (iI v) :: st)) : wx_ G X N ad ce μ k n pc lv st := by
  obtain ⟨p, l, e, R, s, m, args, below, meth, c, Q, A, nL⟩ := X
  intro H locs ls hP hD hS hl
  subst hp
  refine lv_sipush C.1 C.2.1 d hv ?_
  exact h H locs ls hP hD hS hl
theorem xx_iadd (C : cx_ G X cc own rm ret nl) (p1 : Nat) (hp : pc + 1 = p1) {a b : Int} (d : decode cc pc = .ok (.iadd, 1))  (h : wx_ G X N ad ce μ k n p1 lv (.int (iI (a + b)) :: st)) : wx_ G X N ad ce μ k n pc lv (.int (iI b) :: .int (iI a) :: st) := by
  obtain ⟨p, l, e, R, s, m, args, below, meth, c, Q, A, nL⟩ := X
  intro H locs ls hP hD hS hl
  subst hp
  refine lv_iadd C.1 C.2.1 d ?_
  rw [iI_add]
  exact h H locs ls hP hD hS hl
theorem xx_isub (C : cx_ G X cc own rm ret nl) (p1 : Nat) (hp : pc + 1 = p1) {a b : Int} (d : decode cc pc = .ok (.isub, 1))  (h : wx_ G X N ad ce μ k n p1 lv (.int (iI (a - b)) :: st)) : wx_ G X N ad ce μ k n pc lv (.int (iI b) :: .int (iI a) :: st) := by
  obtain ⟨p, l, e, R, s, m, args, below, meth, c, Q, A, nL⟩ := X
  intro H locs ls hP hD hS hl
  subst hp
  refine lv_isub C.1 C.2.1 d ?_
  rw [iI_sub]
  exact h H locs ls hP hD hS hl
theorem xx_imul (C : cx_ G X cc own rm ret nl) (p1 : Nat) (hp : pc + 1 = p1) {a b : Int} (d : decode cc pc = .ok (.imul, 1))  (h : wx_ G X N ad ce μ k n p1 lv (.int (iI (a * b)) :: st)) : wx_ G X N ad ce μ k n pc lv (.int (iI b) :: .int (iI a) :: st) := by
  obtain ⟨p, l, e, R, s, m, args, below, meth, c, Q, A, nL⟩ := X
  intro H locs ls hP hD hS hl
  subst hp
  refine lv_imul C.1 C.2.1 d ?_
  rw [iI_mul]
  exact h H locs ls hP hD hS hl
theorem xx_ineg (C : cx_ G X cc own rm ret nl) (p1 : Nat) (hp : pc + 1 = p1) {a : Int} (d : decode cc pc = .ok (.ineg, 1))  (h : wx_ G X N ad ce μ k n p1 lv (.int (iI (-a)) :: st)) : wx_ G X N ad ce μ k n pc lv (.int (iI a) :: st) := by
  obtain ⟨p, l, e, R, s, m, args, below, meth, c, Q, A, nL⟩ := X
  intro H locs ls hP hD hS hl
  subst hp
  refine lv_ineg C.1 C.2.1 d ?_
  rw [iI_neg]
  exact h H locs ls hP hD hS hl
theorem xx_iand (C : cx_ G X cc own rm ret nl) (p1 : Nat) (hp : pc + 1 = p1) {a b : Int} (d : decode cc pc = .ok (.iand, 1))  (h : wx_ G X N ad ce μ k n p1 lv (.int (iI (an_ a b)) :: st)) : wx_ G X N ad ce μ k n pc lv (.int (iI b) :: .int (iI a) :: st) := by
  obtain ⟨p, l, e, R, s, m, args, below, meth, c, Q, A, nL⟩ := X
  intro H locs ls hP hD hS hl
  subst hp
  refine lv_iand C.1 C.2.1 d ?_
  rw [show iI a &&& iI b = iI (an_ a b) from (iI_of _).symm]
  exact h H locs ls hP hD hS hl
theorem xx_ior (C : cx_ G X cc own rm ret nl) (p1 : Nat) (hp : pc + 1 = p1) {a b : Int} (d : decode cc pc = .ok (.ior, 1))  (h : wx_ G X N ad ce μ k n p1 lv (.int (iI (or_ a b)) :: st)) : wx_ G X N ad ce μ k n pc lv (.int (iI b) :: .int (iI a) :: st) := by
  obtain ⟨p, l, e, R, s, m, args, below, meth, c, Q, A, nL⟩ := X
  intro H locs ls hP hD hS hl
  subst hp
  refine lv_ior C.1 C.2.1 d ?_
  rw [show iI a ||| iI b = iI (or_ a b) from (iI_of _).symm]
  exact h H locs ls hP hD hS hl
theorem xx_ixor (C : cx_ G X cc own rm ret nl) (p1 : Nat) (hp : pc + 1 = p1) {a b : Int} (d : decode cc pc = .ok (.ixor, 1))  (h : wx_ G X N ad ce μ k n p1 lv (.int (iI (xo_ a b)) :: st)) : wx_ G X N ad ce μ k n pc lv (.int (iI b) :: .int (iI a) :: st) := by
  obtain ⟨p, l, e, R, s, m, args, below, meth, c, Q, A, nL⟩ := X
  intro H locs ls hP hD hS hl
  subst hp
  refine lv_ixor C.1 C.2.1 d ?_
  rw [show iI a ^^^ iI b = iI (xo_ a b) from (iI_of _).symm]
  exact h H locs ls hP hD hS hl
theorem xx_ishl (C : cx_ G X cc own rm ret nl) (p1 : Nat) (hp : pc + 1 = p1) {a b : Int} (d : decode cc pc = .ok (.ishl, 1))  (h : wx_ G X N ad ce μ k n p1 lv (.int (iI (sl_ a b)) :: st)) : wx_ G X N ad ce μ k n pc lv (.int (iI b) :: .int (iI a) :: st) := by
  obtain ⟨p, l, e, R, s, m, args, below, meth, c, Q, A, nL⟩ := X
  intro H locs ls hP hD hS hl
  subst hp
  refine lv_ishl C.1 C.2.1 d ?_
  rw [show iI a <<< (iI b &&& 31) = iI (sl_ a b) from (iI_of _).symm]
  exact h H locs ls hP hD hS hl
theorem xx_ishr (C : cx_ G X cc own rm ret nl) (p1 : Nat) (hp : pc + 1 = p1) {a b : Int} (d : decode cc pc = .ok (.ishr, 1))  (h : wx_ G X N ad ce μ k n p1 lv (.int (iI (sr_ a b)) :: st)) : wx_ G X N ad ce μ k n pc lv (.int (iI b) :: .int (iI a) :: st) := by
  obtain ⟨p, l, e, R, s, m, args, below, meth, c, Q, A, nL⟩ := X
  intro H locs ls hP hD hS hl
  subst hp
  refine lv_ishr C.1 C.2.1 d ?_
  rw [show iI a >>> (iI b &&& 31) = iI (sr_ a b) from (iI_of _).symm]
  exact h H locs ls hP hD hS hl
theorem xx_iushr (C : cx_ G X cc own rm ret nl) (p1 : Nat) (hp : pc + 1 = p1) {a b : Int} (d : decode cc pc = .ok (.iushr, 1))  (h : wx_ G X N ad ce μ k n p1 lv (.int (iI (su_ a b)) :: st)) : wx_ G X N ad ce μ k n pc lv (.int (iI b) :: .int (iI a) :: st) := by
  obtain ⟨p, l, e, R, s, m, args, below, meth, c, Q, A, nL⟩ := X
  intro H locs ls hP hD hS hl
  subst hp
  refine lv_iushr C.1 C.2.1 d (iI_of _).symm ?_
  exact h H locs ls hP hD hS hl
theorem xx_i2c (C : cx_ G X cc own rm ret nl) (p1 : Nat) (hp : pc + 1 = p1) {a : Int} (d : decode cc pc = .ok (.i2c, 1))  (h : wx_ G X N ad ce μ k n p1 lv (.int (iI (i2c_ a)) :: st)) : wx_ G X N ad ce μ k n pc lv (.int (iI a) :: st) := by
  obtain ⟨p, l, e, R, s, m, args, below, meth, c, Q, A, nL⟩ := X
  intro H locs ls hP hD hS hl
  subst hp
  refine lv_i2c C.1 C.2.1 d (iI_of _).symm ?_
  exact h H locs ls hP hD hS hl
theorem xx_i2b (C : cx_ G X cc own rm ret nl) (p1 : Nat) (hp : pc + 1 = p1) {a : Int} (d : decode cc pc = .ok (.i2b, 1))  (h : wx_ G X N ad ce μ k n p1 lv (.int (iI (i2b_ a)) :: st)) : wx_ G X N ad ce μ k n pc lv (.int (iI a) :: st) := by
  obtain ⟨p, l, e, R, s, m, args, below, meth, c, Q, A, nL⟩ := X
  intro H locs ls hP hD hS hl
  subst hp
  refine lv_i2b C.1 C.2.1 d (iI_of _).symm ?_
  exact h H locs ls hP hD hS hl
theorem xx_dup (C : cx_ G X cc own rm ret nl) (p1 : Nat) (hp : pc + 1 = p1) {va : Value} (d : decode cc pc = .ok (.dup, 1)) (hva : va.category = 1) (h : wx_ G X N ad ce μ k n p1 lv (va :: va :: st)) : wx_ G X N ad ce μ k n pc lv (va :: st) := by
  obtain ⟨p, l, e, R, s, m, args, below, meth, c, Q, A, nL⟩ := X
  intro H locs ls hP hD hS hl
  subst hp
  refine lv_dup C.1 C.2.1 d hva ?_
  exact h H locs ls hP hD hS hl
theorem xx_pop (C : cx_ G X cc own rm ret nl) (p1 : Nat) (hp : pc + 1 = p1) {va : Value} (d : decode cc pc = .ok (.pop, 1)) (hva : va.category = 1) (h : wx_ G X N ad ce μ k n p1 lv st) : wx_ G X N ad ce μ k n pc lv (va :: st) := by
  obtain ⟨p, l, e, R, s, m, args, below, meth, c, Q, A, nL⟩ := X
  intro H locs ls hP hD hS hl
  subst hp
  refine lv_pop C.1 C.2.1 d hva ?_
  exact h H locs ls hP hD hS hl
theorem xx_dup_x1 (C : cx_ G X cc own rm ret nl) (p1 : Nat) (hp : pc + 1 = p1) {va vb : Value} (d : decode cc pc = .ok (.dup_x1, 1)) (hva : va.category = 1) (hvb : vb.category = 1) (h : wx_ G X N ad ce μ k n p1 lv (va :: vb :: va :: st)) : wx_ G X N ad ce μ k n pc lv (va :: vb :: st) := by
  obtain ⟨p, l, e, R, s, m, args, below, meth, c, Q, A, nL⟩ := X
  intro H locs ls hP hD hS hl
  subst hp
  refine lv_dup_x1 C.1 C.2.1 d hva hvb ?_
  exact h H locs ls hP hD hS hl
theorem xx_dup2 (C : cx_ G X cc own rm ret nl) (p1 : Nat) (hp : pc + 1 = p1) {va vb : Value} (d : decode cc pc = .ok (.dup2, 1)) (hva : va.category = 1) (hvb : vb.category = 1) (h : wx_ G X N ad ce μ k n p1 lv (va :: vb :: va :: vb :: st)) : wx_ G X N ad ce μ k n pc lv (va :: vb :: st) := by
  obtain ⟨p, l, e, R, s, m, args, below, meth, c, Q, A, nL⟩ := X
  intro H locs ls hP hD hS hl
  subst hp
  refine lv_dup2_11 C.1 C.2.1 d hva hvb ?_
  exact h H locs ls hP hD hS hl
theorem xx_i2d (C : cx_ G X cc own rm ret nl) (p1 : Nat) (hp : pc + 1 = p1) {a : Int} (d : decode cc pc = .ok (.i2d, 1))  (h : wx_ G X N ad ce μ k n p1 lv (.double (FP.i2d (iI a)) :: st)) : wx_ G X N ad ce μ k n pc lv (.int (iI a) :: st) := by
  obtain ⟨p, l, e, R, s, m, args, below, meth, c, Q, A, nL⟩ := X
  intro H locs ls hP hD hS hl
  subst hp
  refine lv_i2d C.1 C.2.1 d ?_
  exact h H locs ls hP hD hS hl
theorem xx_i2f (C : cx_ G X cc own rm ret nl) (p1 : Nat) (hp : pc + 1 = p1) {a : Int} (d : decode cc pc = .ok (.i2f, 1))  (h : wx_ G X N ad ce μ k n p1 lv (.float (FP.i2f (iI a)) :: st)) : wx_ G X N ad ce μ k n pc lv (.int (iI a) :: st) := by
  obtain ⟨p, l, e, R, s, m, args, below, meth, c, Q, A, nL⟩ := X
  intro H locs ls hP hD hS hl
  subst hp
  refine lv_i2f C.1 C.2.1 d ?_
  exact h H locs ls hP hD hS hl
theorem xx_dconst0 (C : cx_ G X cc own rm ret nl) (p1 : Nat) (hp : pc + 1 = p1)  (d : decode cc pc = .ok (.dconst 0, 1))  (h : wx_ G X N ad ce μ k n p1 lv (.double FP.dconst0 :: st)) : wx_ G X N ad ce μ k n pc lv st := by
  obtain ⟨p, l, e, R, s, m, args, below, meth, c, Q, A, nL⟩ := X
  intro H locs ls hP hD hS hl
  subst hp
  refine lv_dconst0 C.1 C.2.1 d ?_
  exact h H locs ls hP hD hS hl
theorem xx_fconst0 (C : cx_ G X cc own rm ret nl) (p1 : Nat) (hp : pc + 1 = p1)  (d : decode cc pc = .ok (.fconst 0, 1))  (h : wx_ G X N ad ce μ k n p1 lv (.float FP.fconst0 :: st)) : wx_ G X N ad ce μ k n pc lv st := by
  obtain ⟨p, l, e, R, s, m, args, below, meth, c, Q, A, nL⟩ := X
  intro H locs ls hP hD hS hl
  subst hp
  refine lv_fconst0 C.1 C.2.1 d ?_
  exact h H locs ls hP hD hS hl
theorem xx_iload_n (C : cx_ G X cc own rm ret nl) (p1 : Nat) (hp : pc + 1 = p1) (q : Nat) {kf : Fin 4} {j : Nat} {x : Int32} (d : decode cc pc = .ok (.iload_n kf, 1)) (hi : (kf : Nat) = j) (hq : lv[q]? = some (j, .int x)) (h : wx_ G X N ad ce μ k n p1 lv (.int x :: st)) : wx_ G X N ad ce μ k n pc lv st := by
  obtain ⟨p, l, e, R, s, m, args, below, meth, c, Q, A, nL⟩ := X
  intro H locs ls hP hD hS hl
  subst hp
  exact lv_iload_n C.1 C.2.1 d hi (lv_at hl q hq) (h H locs ls hP hD hS hl)
theorem xx_iload (C : cx_ G X cc own rm ret nl) (p1 : Nat) (hp : pc + 2 = p1) (q : Nat) {j : Nat} {x : Int32} (d : decode cc pc = .ok (.iload j, 2)) (hq : lv[q]? = some (j, .int x)) (h : wx_ G X N ad ce μ k n p1 lv (.int x :: st)) : wx_ G X N ad ce μ k n pc lv st := by
  obtain ⟨p, l, e, R, s, m, args, below, meth, c, Q, A, nL⟩ := X
  intro H locs ls hP hD hS hl
  subst hp
  exact lv_iload C.1 C.2.1 d (lv_at hl q hq) (h H locs ls hP hD hS hl)
theorem xx_istore_n (C : cx_ G X cc own rm ret nl) (p1 : Nat) (hp : pc + 1 = p1) {kf : Fin 4} {j : Nat} {x : Int32} (hn : j < nl) (d : decode cc pc = .ok (.istore_n kf, 1)) (hi : (kf : Nat) = j) (hf : (j, Value.int x) :: lv.filter (fun q => !(q.1 == j) && !(q.1 + 1 == j && q.2.category == 2)) = lv1) (h : wx_ G X N ad ce μ k n p1 lv1 st) : wx_ G X N ad ce μ k n pc lv (.int x :: st) := by
  obtain ⟨p, l, e, R, s, m, args, below, meth, c, Q, A, nL⟩ := X
  intro H locs ls hP hD hS hl
  subst hp
  exact lv_istore_n C.1 C.2.1 d hi hl (C.2.2.2.2.2.2.2.2.2.2.2.2 ▸ hn) hf (fun ls hl => h H locs ls hP hD hS hl)
theorem xx_istore (C : cx_ G X cc own rm ret nl) (p1 : Nat) (hp : pc + 2 = p1) {j : Nat} {x : Int32} (hn : j < nl) (d : decode cc pc = .ok (.istore j, 2)) (hf : (j, Value.int x) :: lv.filter (fun q => !(q.1 == j) && !(q.1 + 1 == j && q.2.category == 2)) = lv1) (h : wx_ G X N ad ce μ k n p1 lv1 st) : wx_ G X N ad ce μ k n pc lv (.int x :: st) := by
  obtain ⟨p, l, e, R, s, m, args, below, meth, c, Q, A, nL⟩ := X
  intro H locs ls hP hD hS hl
  subst hp
  exact lv_istore C.1 C.2.1 d hl (C.2.2.2.2.2.2.2.2.2.2.2.2 ▸ hn) hf (fun ls hl => h H locs ls hP hD hS hl)
theorem xx_aload_n (C : cx_ G X cc own rm ret nl) (p1 : Nat) (hp : pc + 1 = p1) (q : Nat) {kf : Fin 4} {j : Nat} {x : Nat} (d : decode cc pc = .ok (.aload_n kf, 1)) (hi : (kf : Nat) = j) (hq : lv[q]? = some (j, .ref x)) (h : wx_ G X N ad ce μ k n p1 lv (.ref x :: st)) : wx_ G X N ad ce μ k n pc lv st := by
  obtain ⟨p, l, e, R, s, m, args, below, meth, c, Q, A, nL⟩ := X
  intro H locs ls hP hD hS hl
  subst hp
  exact lv_aload_n C.1 C.2.1 d hi (lv_at hl q hq) (h H locs ls hP hD hS hl)
theorem xx_aload (C : cx_ G X cc own rm ret nl) (p1 : Nat) (hp : pc + 2 = p1) (q : Nat) {j : Nat} {x : Nat} (d : decode cc pc = .ok (.aload j, 2)) (hq : lv[q]? = some (j, .ref x)) (h : wx_ G X N ad ce μ k n p1 lv (.ref x :: st)) : wx_ G X N ad ce μ k n pc lv st := by
  obtain ⟨p, l, e, R, s, m, args, below, meth, c, Q, A, nL⟩ := X
  intro H locs ls hP hD hS hl
  subst hp
  exact lv_aload C.1 C.2.1 d (lv_at hl q hq) (h H locs ls hP hD hS hl)
theorem xx_astore_n (C : cx_ G X cc own rm ret nl) (p1 : Nat) (hp : pc + 1 = p1) {kf : Fin 4} {j : Nat} {x : Nat} (hn : j < nl) (d : decode cc pc = .ok (.astore_n kf, 1)) (hi : (kf : Nat) = j) (hf : (j, Value.ref x) :: lv.filter (fun q => !(q.1 == j) && !(q.1 + 1 == j && q.2.category == 2)) = lv1) (h : wx_ G X N ad ce μ k n p1 lv1 st) : wx_ G X N ad ce μ k n pc lv (.ref x :: st) := by
  obtain ⟨p, l, e, R, s, m, args, below, meth, c, Q, A, nL⟩ := X
  intro H locs ls hP hD hS hl
  subst hp
  exact lv_astore_n C.1 C.2.1 d hi hl (C.2.2.2.2.2.2.2.2.2.2.2.2 ▸ hn) hf (fun ls hl => h H locs ls hP hD hS hl)
theorem xx_astore (C : cx_ G X cc own rm ret nl) (p1 : Nat) (hp : pc + 2 = p1) {j : Nat} {x : Nat} (hn : j < nl) (d : decode cc pc = .ok (.astore j, 2)) (hf : (j, Value.ref x) :: lv.filter (fun q => !(q.1 == j) && !(q.1 + 1 == j && q.2.category == 2)) = lv1) (h : wx_ G X N ad ce μ k n p1 lv1 st) : wx_ G X N ad ce μ k n pc lv (.ref x :: st) := by
  obtain ⟨p, l, e, R, s, m, args, below, meth, c, Q, A, nL⟩ := X
  intro H locs ls hP hD hS hl
  subst hp
  exact lv_astore C.1 C.2.1 d hl (C.2.2.2.2.2.2.2.2.2.2.2.2 ▸ hn) hf (fun ls hl => h H locs ls hP hD hS hl)
theorem xx_iinc (C : cx_ G X cc own rm ret nl) (p1 : Nat) (hp : pc + 3 = p1) (q : Nat) {j : Nat} {v x : Int} (hn : j < nl) (d : decode cc pc = .ok (.iinc j v, 3)) (hq : lv[q]? = some (j, .int (iI x))) (hf : (j, Value.int (iI (x + v))) :: lv.filter (fun q => !(q.1 == j) && !(q.1 + 1 == j && q.2.category == 2)) = lv1) (h : wx_ G X N ad ce μ k n p1 lv1 st) : wx_ G X N ad ce μ k n pc lv st := by
  obtain ⟨p, l, e, R, s, m, args, below, meth, c, Q, A, nL⟩ := X
  intro H locs ls hP hD hS hl
  subst hp
  exact lv_iinc C.1 C.2.1 d hl hq (by rw [← iI_add]; rfl) (C.2.2.2.2.2.2.2.2.2.2.2.2 ▸ hn) hf (fun ls hl => h H locs ls hP hD hS hl)
theorem xx_iincn (C : cx_ G X cc own rm ret nl) (p1 : Nat) (hp : pc + 3 = p1) (q : Nat) {j : Nat} {v x : Int} {f : Int → Option α} (hn : j < nl) (d : decode cc pc = .ok (.iinc j v, 3)) (hq : lv[q]? = some (j, .int (iI x))) (h : nm_ (x + v) f = some r) (kk : ∀ x1, f x1 = some r → wx_ G X N ad ce μ k n p1 ((j, Value.int (iI x1)) :: lv.filter (fun q => !(q.1 == j) && !(q.1 + 1 == j && q.2.category == 2))) st) : wx_ G X N ad ce μ k n pc lv st := by
  obtain ⟨p, l, e, R, s, m, args, below, meth, c, Q, A, nL⟩ := X
  intro H locs ls hP hD hS hl
  subst hp
  exact lv_iinc C.1 C.2.1 d hl hq (by rw [← iI_add]; rfl) (C.2.2.2.2.2.2.2.2.2.2.2.2 ▸ hn) rfl (fun ls hl => kk _ h H locs ls hP hD hS hl)
theorem xx_lv (e : lv = lv1) (h : wx_ G X N ad ce μ k n pc lv1 st) : wx_ G X N ad ce μ k n pc lv st := e ▸ h
theorem nn_ {P : Prop} (h : (none : Option α) = some r) : P := by cases h
theorem xx_nm (C : cx_ G X cc own rm ret nl) {v : Int} {f : Int → Option α} (h : nm_ v f = some r) (kk : ∀ x, f x = some r → wx_ G X N ad ce μ k n pc lv (.int (iI x) :: st)) : wx_ G X N ad ce μ k n pc lv (.int (iI v) :: st) := by
  obtain ⟨p, l, e, R, s, m, args, below, meth, c, Q, A, nL⟩ := X
  intro H locs ls hP hD hS hl
  exact kk v h H locs ls hP hD hS hl
theorem xx_sub (ks : List Nat) (hlv : lv_pick lv ks = lv1) (h : wx_ G X N ad ce μ k n pc lv1 st) : wx_ G X N ad ce μ k n pc lv st := by
  obtain ⟨p, l, e, R, s, m, args, below, meth, c, Q, A, nL⟩ := X
  intro H locs ls hP hD hS hl
  exact h H locs ls hP hD hS (lv_sub hl ks hlv)
theorem xx_goto (C : cx_ G X cc own rm ret nl) {off : Int} (tgt : Nat) (d : decode cc pc = .ok (.goto off, 3)) (ht : (pc : Int) + off = (tgt : Int)) (h : wx_ G X N ad ce μ k n tgt lv st) : wx_ G X N ad ce μ k n pc lv st := by
  obtain ⟨p, l, e, R, s, m, args, below, meth, c, Q, A, nL⟩ := X
  intro H locs ls hP hD hS hl
  exact lv_goto C.1 C.2.1 d ht (h H locs ls hP hD hS hl)
theorem xx_icmp_lt (C : cx_ G X cc own rm ret nl) (p1 : Nat) (hp : pc + 3 = p1) {a b : Int} {off : Int} {tgt : Nat} {t f : Option α} (d : decode cc pc = .ok (.if_icmp .lt off, 3)) (ht : (pc : Int) + off = (tgt : Int)) (h : lt_ a b t f = some r) (k1 : t = some r → wx_ G X N ad ce μ k n tgt lv st) (k2 : f = some r → wx_ G X N ad ce μ k n p1 lv st) : wx_ G X N ad ce μ k n pc lv (.int (iI b) :: .int (iI a) :: st) := by
  obtain ⟨p, l, e, R, s, m, args, below, meth, c, Q, A, nL⟩ := X
  intro H locs ls hP hD hS hl
  subst hp
  obtain ⟨hr, ⟨hc, hh⟩ | ⟨hc, hh⟩⟩ := lt_e h
  · exact lv_icmp_lt C.1 C.2.1 d ht (fun _ => k1 hh H locs ls hP hD hS hl) (fun q => absurd ((iI_lt hr.1 hr.2).mpr hc) q)
  · exact lv_icmp_lt C.1 C.2.1 d ht (fun q => absurd ((iI_lt hr.1 hr.2).mp q) hc) (fun _ => k2 hh H locs ls hP hD hS hl)
theorem xx_if_lt (C : cx_ G X cc own rm ret nl) (p1 : Nat) (hp : pc + 3 = p1) {a : Int} {off : Int} {tgt : Nat} {t f : Option α} (d : decode cc pc = .ok (.ifCond .lt off, 3)) (ht : (pc : Int) + off = (tgt : Int)) (h : lt_ a 0 t f = some r) (k1 : t = some r → wx_ G X N ad ce μ k n tgt lv st) (k2 : f = some r → wx_ G X N ad ce μ k n p1 lv st) : wx_ G X N ad ce μ k n pc lv (.int (iI a) :: st) := by
  obtain ⟨p, l, e, R, s, m, args, below, meth, c, Q, A, nL⟩ := X
  intro H locs ls hP hD hS hl
  subst hp
  obtain ⟨hr, ⟨hc, hh⟩ | ⟨hc, hh⟩⟩ := lt_e h
  · exact lv_if_lt C.1 C.2.1 d ht (fun _ => k1 hh H locs ls hP hD hS hl) (fun q => absurd ((iI_lt hr.1 hr.2).mpr hc) q)
  · exact lv_if_lt C.1 C.2.1 d ht (fun q => absurd ((iI_lt hr.1 hr.2).mp q) hc) (fun _ => k2 hh H locs ls hP hD hS hl)
theorem xx_icmp_ge (C : cx_ G X cc own rm ret nl) (p1 : Nat) (hp : pc + 3 = p1) {a b : Int} {off : Int} {tgt : Nat} {t f : Option α} (d : decode cc pc = .ok (.if_icmp .ge off, 3)) (ht : (pc : Int) + off = (tgt : Int)) (h : lt_ a b f t = some r) (k1 : t = some r → wx_ G X N ad ce μ k n tgt lv st) (k2 : f = some r → wx_ G X N ad ce μ k n p1 lv st) : wx_ G X N ad ce μ k n pc lv (.int (iI b) :: .int (iI a) :: st) := by
  obtain ⟨p, l, e, R, s, m, args, below, meth, c, Q, A, nL⟩ := X
  intro H locs ls hP hD hS hl
  subst hp
  obtain ⟨hr, ⟨hc, hh⟩ | ⟨hc, hh⟩⟩ := lt_e h
  · exact lv_icmp_ge C.1 C.2.1 d ht (fun q => absurd ((iI_le hr.2 hr.1).mp q) (by omega)) (fun _ => k2 hh H locs ls hP hD hS hl)
  · exact lv_icmp_ge C.1 C.2.1 d ht (fun _ => k1 hh H locs ls hP hD hS hl) (fun q => absurd ((iI_le hr.2 hr.1).mpr (by omega)) q)
theorem xx_if_ge (C : cx_ G X cc own rm ret nl) (p1 : Nat) (hp : pc + 3 = p1) {a : Int} {off : Int} {tgt : Nat} {t f : Option α} (d : decode cc pc = .ok (.ifCond .ge off, 3)) (ht : (pc : Int) + off = (tgt : Int)) (h : lt_ a 0 f t = some r) (k1 : t = some r → wx_ G X N ad ce μ k n tgt lv st) (k2 : f = some r → wx_ G X N ad ce μ k n p1 lv st) : wx_ G X N ad ce μ k n pc lv (.int (iI a) :: st) := by
  obtain ⟨p, l, e, R, s, m, args, below, meth, c, Q, A, nL⟩ := X
  intro H locs ls hP hD hS hl
  subst hp
  obtain ⟨hr, ⟨hc, hh⟩ | ⟨hc, hh⟩⟩ := lt_e h
  · exact lv_if_ge C.1 C.2.1 d ht (fun q => absurd ((iI_le hr.2 hr.1).mp q) (by omega)) (fun _ => k2 hh H locs ls hP hD hS hl)
  · exact lv_if_ge C.1 C.2.1 d ht (fun _ => k1 hh H locs ls hP hD hS hl) (fun q => absurd ((iI_le hr.2 hr.1).mpr (by omega)) q)
theorem xx_icmp_gt (C : cx_ G X cc own rm ret nl) (p1 : Nat) (hp : pc + 3 = p1) {a b : Int} {off : Int} {tgt : Nat} {t f : Option α} (d : decode cc pc = .ok (.if_icmp .gt off, 3)) (ht : (pc : Int) + off = (tgt : Int)) (h : lt_ b a t f = some r) (k1 : t = some r → wx_ G X N ad ce μ k n tgt lv st) (k2 : f = some r → wx_ G X N ad ce μ k n p1 lv st) : wx_ G X N ad ce μ k n pc lv (.int (iI b) :: .int (iI a) :: st) := by
  obtain ⟨p, l, e, R, s, m, args, below, meth, c, Q, A, nL⟩ := X
  intro H locs ls hP hD hS hl
  subst hp
  obtain ⟨hr, ⟨hc, hh⟩ | ⟨hc, hh⟩⟩ := lt_e h
  · exact lv_icmp_gt C.1 C.2.1 d ht (fun _ => k1 hh H locs ls hP hD hS hl) (fun q => absurd ((iI_lt hr.1 hr.2).mpr hc) q)
  · exact lv_icmp_gt C.1 C.2.1 d ht (fun q => absurd ((iI_lt hr.1 hr.2).mp q) hc) (fun _ => k2 hh H locs ls hP hD hS hl)
theorem xx_if_gt (C : cx_ G X cc own rm ret nl) (p1 : Nat) (hp : pc + 3 = p1) {a : Int} {off : Int} {tgt : Nat} {t f : Option α} (d : decode cc pc = .ok (.ifCond .gt off, 3)) (ht : (pc : Int) + off = (tgt : Int)) (h : lt_ 0 a t f = some r) (k1 : t = some r → wx_ G X N ad ce μ k n tgt lv st) (k2 : f = some r → wx_ G X N ad ce μ k n p1 lv st) : wx_ G X N ad ce μ k n pc lv (.int (iI a) :: st) := by
  obtain ⟨p, l, e, R, s, m, args, below, meth, c, Q, A, nL⟩ := X
  intro H locs ls hP hD hS hl
  subst hp
  obtain ⟨hr, ⟨hc, hh⟩ | ⟨hc, hh⟩⟩ := lt_e h
  · exact lv_if_gt C.1 C.2.1 d ht (fun _ => k1 hh H locs ls hP hD hS hl) (fun q => absurd ((iI_lt hr.1 hr.2).mpr hc) q)
  · exact lv_if_gt C.1 C.2.1 d ht (fun q => absurd ((iI_lt hr.1 hr.2).mp q) hc) (fun _ => k2 hh H locs ls hP hD hS hl)
theorem xx_icmp_le (C : cx_ G X cc own rm ret nl) (p1 : Nat) (hp : pc + 3 = p1) {a b : Int} {off : Int} {tgt : Nat} {t f : Option α} (d : decode cc pc = .ok (.if_icmp .le off, 3)) (ht : (pc : Int) + off = (tgt : Int)) (h : lt_ b a f t = some r) (k1 : t = some r → wx_ G X N ad ce μ k n tgt lv st) (k2 : f = some r → wx_ G X N ad ce μ k n p1 lv st) : wx_ G X N ad ce μ k n pc lv (.int (iI b) :: .int (iI a) :: st) := by
  obtain ⟨p, l, e, R, s, m, args, below, meth, c, Q, A, nL⟩ := X
  intro H locs ls hP hD hS hl
  subst hp
  obtain ⟨hr, ⟨hc, hh⟩ | ⟨hc, hh⟩⟩ := lt_e h
  · exact lv_icmp_le C.1 C.2.1 d ht (fun q => absurd ((iI_le hr.2 hr.1).mp q) (by omega)) (fun _ => k2 hh H locs ls hP hD hS hl)
  · exact lv_icmp_le C.1 C.2.1 d ht (fun _ => k1 hh H locs ls hP hD hS hl) (fun q => absurd ((iI_le hr.2 hr.1).mpr (by omega)) q)
theorem xx_if_le (C : cx_ G X cc own rm ret nl) (p1 : Nat) (hp : pc + 3 = p1) {a : Int} {off : Int} {tgt : Nat} {t f : Option α} (d : decode cc pc = .ok (.ifCond .le off, 3)) (ht : (pc : Int) + off = (tgt : Int)) (h : lt_ 0 a f t = some r) (k1 : t = some r → wx_ G X N ad ce μ k n tgt lv st) (k2 : f = some r → wx_ G X N ad ce μ k n p1 lv st) : wx_ G X N ad ce μ k n pc lv (.int (iI a) :: st) := by
  obtain ⟨p, l, e, R, s, m, args, below, meth, c, Q, A, nL⟩ := X
  intro H locs ls hP hD hS hl
  subst hp
  obtain ⟨hr, ⟨hc, hh⟩ | ⟨hc, hh⟩⟩ := lt_e h
  · exact lv_if_le C.1 C.2.1 d ht (fun q => absurd ((iI_le hr.2 hr.1).mp q) (by omega)) (fun _ => k2 hh H locs ls hP hD hS hl)
  · exact lv_if_le C.1 C.2.1 d ht (fun _ => k1 hh H locs ls hP hD hS hl) (fun q => absurd ((iI_le hr.2 hr.1).mpr (by omega)) q)
theorem xx_icmp_eq (C : cx_ G X cc own rm ret nl) (p1 : Nat) (hp : pc + 3 = p1) {a b : Int} {off : Int} {tgt : Nat} {t f : Option α} (d : decode cc pc = .ok (.if_icmp .eq off, 3)) (ht : (pc : Int) + off = (tgt : Int)) (h : eq_ a b t f = some r) (k1 : t = some r → wx_ G X N ad ce μ k n tgt lv st) (k2 : f = some r → wx_ G X N ad ce μ k n p1 lv st) : wx_ G X N ad ce μ k n pc lv (.int (iI b) :: .int (iI a) :: st) := by
  obtain ⟨p, l, e, R, s, m, args, below, meth, c, Q, A, nL⟩ := X
  intro H locs ls hP hD hS hl
  subst hp
  rcases eq_e h with ⟨hc, hh⟩ | ⟨hc, hc2, hh⟩
  · exact lv_icmp_eq C.1 C.2.1 d ht (fun _ => k1 hh H locs ls hP hD hS hl) (fun q => absurd (congrArg iI hc) q)
  · exact lv_icmp_eq C.1 C.2.1 d ht (fun q => absurd q hc) (fun _ => k2 hh H locs ls hP hD hS hl)
theorem xx_if_eq (C : cx_ G X cc own rm ret nl) (p1 : Nat) (hp : pc + 3 = p1) {a : Int} {off : Int} {tgt : Nat} {t f : Option α} (d : decode cc pc = .ok (.ifCond .eq off, 3)) (ht : (pc : Int) + off = (tgt : Int)) (h : eq_ a 0 t f = some r) (k1 : t = some r → wx_ G X N ad ce μ k n tgt lv st) (k2 : f = some r → wx_ G X N ad ce μ k n p1 lv st) : wx_ G X N ad ce μ k n pc lv (.int (iI a) :: st) := by
  obtain ⟨p, l, e, R, s, m, args, below, meth, c, Q, A, nL⟩ := X
  intro H locs ls hP hD hS hl
  subst hp
  rcases eq_e h with ⟨hc, hh⟩ | ⟨hc, hc2, hh⟩
  · exact lv_if_eq C.1 C.2.1 d ht (fun _ => k1 hh H locs ls hP hD hS hl) (fun q => absurd (congrArg iI hc) q)
  · exact lv_if_eq C.1 C.2.1 d ht (fun q => absurd q hc) (fun _ => k2 hh H locs ls hP hD hS hl)
theorem xx_icmp_ne (C : cx_ G X cc own rm ret nl) (p1 : Nat) (hp : pc + 3 = p1) {a b : Int} {off : Int} {tgt : Nat} {t f : Option α} (d : decode cc pc = .ok (.if_icmp .ne off, 3)) (ht : (pc : Int) + off = (tgt : Int)) (h : eq_ a b f t = some r) (k1 : t = some r → wx_ G X N ad ce μ k n tgt lv st) (k2 : f = some r → wx_ G X N ad ce μ k n p1 lv st) : wx_ G X N ad ce μ k n pc lv (.int (iI b) :: .int (iI a) :: st) := by
  obtain ⟨p, l, e, R, s, m, args, below, meth, c, Q, A, nL⟩ := X
  intro H locs ls hP hD hS hl
  subst hp
  rcases eq_e h with ⟨hc, hh⟩ | ⟨hc, hc2, hh⟩
  · exact lv_icmp_ne C.1 C.2.1 d ht (fun q => absurd (congrArg iI hc) q) (fun _ => k2 hh H locs ls hP hD hS hl)
  · exact lv_icmp_ne C.1 C.2.1 d ht (fun _ => k1 hh H locs ls hP hD hS hl) (fun q => (hc q).elim)
theorem xx_if_ne (C : cx_ G X cc own rm ret nl) (p1 : Nat) (hp : pc + 3 = p1) {a : Int} {off : Int} {tgt : Nat} {t f : Option α} (d : decode cc pc = .ok (.ifCond .ne off, 3)) (ht : (pc : Int) + off = (tgt : Int)) (h : eq_ a 0 f t = some r) (k1 : t = some r → wx_ G X N ad ce μ k n tgt lv st) (k2 : f = some r → wx_ G X N ad ce μ k n p1 lv st) : wx_ G X N ad ce μ k n pc lv (.int (iI a) :: st) := by
  obtain ⟨p, l, e, R, s, m, args, below, meth, c, Q, A, nL⟩ := X
  intro H locs ls hP hD hS hl
  subst hp
  rcases eq_e h with ⟨hc, hh⟩ | ⟨hc, hc2, hh⟩
  · exact lv_if_ne C.1 C.2.1 d ht (fun q => absurd (congrArg iI hc) q) (fun _ => k2 hh H locs ls hP hD hS hl)
  · exact lv_if_ne C.1 C.2.1 d ht (fun _ => k1 hh H locs ls hP hD hS hl) (fun q => (hc q).elim)
theorem xx_idiv (C : cx_ G X cc own rm ret nl) (p1 : Nat) (hp : pc + 1 = p1) {a b : Int} {f : Int → Option α} (d : decode cc pc = .ok (.idiv, 1)) (h : dv_ a b f = some r) (kk : ∀ v, f v = some r → wx_ G X N ad ce μ k n p1 lv (.int (iI v) :: st)) : wx_ G X N ad ce μ k n pc lv (.int (iI b) :: .int (iI a) :: st) := by
  obtain ⟨p, l, e, R, s, m, args, below, meth, c, Q, A, nL⟩ := X
  intro H locs ls hP hD hS hl
  subst hp
  obtain ⟨⟨ha, hb, h0⟩, hh⟩ := ck_e h
  have e0 : ¬ iI b = 0 := fun q => h0 ((iI_eq hb (by decide)).mp (q.trans rfl))
  refine lv_idiv C.1 C.2.1 d e0 ?_
  have hk := kk _ hh H locs ls hP hD hS hl
  rw [iI_div ha hb] at hk
  exact hk
theorem xx_irem (C : cx_ G X cc own rm ret nl) (p1 : Nat) (hp : pc + 1 = p1) {a b : Int} {f : Int → Option α} (d : decode cc pc = .ok (.irem, 1)) (h : rm_ a b f = some r) (kk : ∀ v, f v = some r → wx_ G X N ad ce μ k n p1 lv (.int (iI v) :: st)) : wx_ G X N ad ce μ k n pc lv (.int (iI b) :: .int (iI a) :: st) := by
  obtain ⟨p, l, e, R, s, m, args, below, meth, c, Q, A, nL⟩ := X
  intro H locs ls hP hD hS hl
  subst hp
  obtain ⟨⟨ha, hb, h0⟩, hh⟩ := ck_e h
  have e0 : ¬ iI b = 0 := fun q => h0 ((iI_eq hb (by decide)).mp (q.trans rfl))
  refine lv_irem C.1 C.2.1 d e0 ?_
  have hk := kk _ hh H locs ls hP hD hS hl
  rw [iI_rem ha hb] at hk
  exact hk
theorem xx_getr (C : cx_ G X cc own rm ret nl) (p1 : Nat) (hp : pc + 3 = p1) {fs : List Value} {ci : Nat} {Cn : String} {T : u_T} {NF index fi : Nat} {q : Nat} {v : Value} (hq : q < N) (he : ce q (μ q) = .inr (ci, fs)) (hc : vwCl[ci]? = some (Cn, T, NF)) (hin : ∀ w ∈ u_ws Cn T NF, w ∈ gT_) (hk : fi < NF) (hv : fs[fi]? = some v) (hT : (T fi).1 = Cn) (hlink : Cond.fieldLink own index Cn (T fi).2.1 (T fi).2.2.1 ∈ gT_) (d : decode cc pc = .ok (.getfield index, 3)) (h : wx_ G X N ad ce μ k n p1 lv (v :: st)) : wx_ G X N ad ce μ k n pc lv (.ref (ad q) :: st) := by
  obtain ⟨p, l, e, R, s, m, args, below, meth, c, Q, A, nL⟩ := X
  intro H locs ls hP hD hS hl
  subst hp
  exact va_get (C := Cn) (T := T) (N := NF) (ref := Cn) C.1 C.2.1 C.2.2.1 hin C.2.2.2.1 C.2.2.2.2.1 hP q ((wl_get hq).trans (by rw [he])) hc fi hk (C.2.2.1 _ hlink) (fun x h9 => by rw [hT] at h9; exact h9) hv d (h H locs ls hP hD hS hl)
theorem xx_geti (C : cx_ G X cc own rm ret nl) (p1 : Nat) (hp : pc + 3 = p1) {fs : List Value} {ci : Nat} {Cn : String} {T : u_T} {NF index fi : Nat} {q : Nat} {j : Int} {f : Int → Option α} (hq : q < N) (he : ce q (μ q) = .inr (ci, fs)) (hc : vwCl[ci]? = some (Cn, T, NF)) (hin : ∀ w ∈ u_ws Cn T NF, w ∈ gT_) (hk : fi < NF) (hv : fs[fi]? = some (.int (iI (μ q j)))) (hT : (T fi).1 = Cn) (hlink : Cond.fieldLink own index Cn (T fi).2.1 (T fi).2.2.1 ∈ gT_) (d : decode cc pc = .ok (.getfield index, 3)) (h : nm_ (μ q j) f = some r) (kk : ∀ v, f v = some r → wx_ G X N ad ce μ k n p1 lv (.int (iI v) :: st)) : wx_ G X N ad ce μ k n pc lv (.ref (ad q) :: st) := by
  obtain ⟨p, l, e, R, s, m, args, below, meth, c, Q, A, nL⟩ := X
  intro H locs ls hP hD hS hl
  subst hp
  exact va_get (C := Cn) (T := T) (N := NF) (ref := Cn) C.1 C.2.1 C.2.2.1 hin C.2.2.2.1 C.2.2.2.2.1 hP q ((wl_get hq).trans (by rw [he])) hc fi hk (C.2.2.1 _ hlink) (fun x h9 => by rw [hT] at h9; exact h9) hv d (kk _ h H locs ls hP hD hS hl)
theorem xx_puti (C : cx_ G X cc own rm ret nl) (p1 : Nat) (hp : pc + 3 = p1) {fs : List Value} {ci : Nat} {Cn : String} {T : u_T} {NF index fi : Nat} {q : Nat} {j v : Int} {f : mu_T → Option α} (hq : q < N) (he : ce q (μ q) = .inr (ci, fs)) (he2 : ce q (ur_ (μ q) j v) = .inr (ci, fs.set fi (.int (iI v)))) (hc : vwCl[ci]? = some (Cn, T, NF)) (hin : ∀ w ∈ u_ws Cn T NF, w ∈ gT_) (tyf : Nat → FieldType) (hty : ∀ k, k < NF → parseFieldDescriptor (T k).2.2.1 = some (tyf k)) (hnm : ∀ a, a < NF → ∀ b, b < NF → a ≠ b → (T a).2.1 ≠ (T b).2.1) (hk : fi < NF) (hl0 : fi < fs.length) (hT : (T fi).1 = Cn ∧ (T fi).2.2.2 = false ∧ parseFieldDescriptor (T fi).2.2.1 = some .int) (hlink : Cond.fieldLink own index Cn (T fi).2.1 (T fi).2.2.1 ∈ gT_) (d : decode cc pc = .ok (.putfield index, 3)) (h : wf_ μ q j v f = some r) (kk : ∀ μ1, f μ1 = some r → wx_ G X N ad ce μ1 k n p1 lv st) : wx_ G X N ad ce μ k n pc lv (.int (iI v) :: .ref (ad q) :: st) := by
  obtain ⟨p, l, e, R, s, m, args, below, meth, c, Q, A, nL⟩ := X
  intro H locs ls hP hD hS hl
  subst hp
  refine va_put (C := Cn) (T := T) (N := NF) (ref := Cn) (ty := .int) C.1 C.2.1 C.2.2.1 hin tyf hty hnm C.2.2.2.1 C.2.2.2.2.1 hP hD hS q ((wl_get hq).trans (by rw [he])) hc fi hk (C.2.2.1 _ hlink) (fun x h9 => by rw [hT.1] at h9; exact h9) hT.2.1 hT.2.2 rfl (by first | rfl | (rcases hz with rfl | rfl <;> rfl)) hl0 d (fun H1 locs1 hP1 hD1 hS1 => ?_)
  rw [← he2, wl_set] at hP1 hD1
  exact kk _ h H1 locs1 ls hP1 hD1 hS1 hl
theorem xx_putz (C : cx_ G X cc own rm ret nl) (p1 : Nat) (hp : pc + 3 = p1) {fs : List Value} {ci : Nat} {Cn : String} {T : u_T} {NF index fi : Nat} {q : Nat} {j v : Int} {f : mu_T → Option α} (hq : q < N) (he : ce q (μ q) = .inr (ci, fs)) (he2 : ce q (ur_ (μ q) j v) = .inr (ci, fs.set fi (.int (iI v)))) (hc : vwCl[ci]? = some (Cn, T, NF)) (hin : ∀ w ∈ u_ws Cn T NF, w ∈ gT_) (tyf : Nat → FieldType) (hty : ∀ k, k < NF → parseFieldDescriptor (T k).2.2.1 = some (tyf k)) (hnm : ∀ a, a < NF → ∀ b, b < NF → a ≠ b → (T a).2.1 ≠ (T b).2.1) (hk : fi < NF) (hl0 : fi < fs.length) (hT : (T fi).1 = Cn ∧ (T fi).2.2.2 = false ∧ parseFieldDescriptor (T fi).2.2.1 = some .boolean) (hlink : Cond.fieldLink own index Cn (T fi).2.1 (T fi).2.2.1 ∈ gT_) (d : decode cc pc = .ok (.putfield index, 3)) (h : wz_ μ q j v f = some r) (kk : ∀ μ1, f μ1 = some r → wx_ G X N ad ce μ1 k n p1 lv st) : wx_ G X N ad ce μ k n pc lv (.int (iI v) :: .ref (ad q) :: st) := by
  obtain ⟨p, l, e, R, s, m, args, below, meth, c, Q, A, nL⟩ := X
  intro H locs ls hP hD hS hl
  subst hp
  obtain ⟨hz, h⟩ := ck_e h
  refine va_put (C := Cn) (T := T) (N := NF) (ref := Cn) (ty := .boolean) C.1 C.2.1 C.2.2.1 hin tyf hty hnm C.2.2.2.1 C.2.2.2.2.1 hP hD hS q ((wl_get hq).trans (by rw [he])) hc fi hk (C.2.2.1 _ hlink) (fun x h9 => by rw [hT.1] at h9; exact h9) hT.2.1 hT.2.2 (by rcases hz with rfl | rfl <;> rfl) (by first | rfl | (rcases hz with rfl | rfl <;> rfl)) hl0 d (fun H1 locs1 hP1 hD1 hS1 => ?_)
  rw [← he2, wl_set] at hP1 hD1
  exact kk _ h H1 locs1 ls hP1 hD1 hS1 hl
theorem xx_iaload (C : cx_ G X cc own rm ret nl) (p1 : Nat) (hp : pc + 1 = p1) {nA : Nat} {q : Nat} {i : Int} {f : Int → Option α} (hq : q < N) (he : ∀ row, ce q row = .inl (G.1.1 100, nA, .inl (fun j => iI (row (j : Nat))))) (hn : nA < 2147483648) (d : decode cc pc = .ok (.iaload, 1)) (h : rd_ μ q nA i f = some r) (kk : ∀ v, f v = some r → wx_ G X N ad ce μ k n p1 lv (.int (iI v) :: st)) : wx_ G X N ad ce μ k n pc lv (.int (iI i) :: .ref (ad q) :: st) := by
  obtain ⟨p, l, e, R, s, m, args, below, meth, c, Q, A, nL⟩ := X
  intro H locs ls hP hD hS hl
  subst hp
  obtain ⟨⟨h0, h1⟩, h⟩ := ck_e h
  refine va_iald C.1 C.2.1 C.2.2.2.2.1 hP q 0 ((wl_get hq).trans (by rw [he])) rfl (iI_in h0 h1 hn) d ?_
  have e1 : (((iI i).toNatClampNeg : Nat) : Int) = i := by rw [iI_clamp (by omega)]; omega
  show W _ _ _ _ _ _ _ _ _ _ _ _ _ _ _ (F0 m (pc + 1) ls (.int (iI (μ q (((iI i).toNatClampNeg : Nat) : Int))) :: st))
  rw [e1]
  exact kk _ h H locs ls hP hD hS hl
theorem xx_iastore (C : cx_ G X cc own rm ret nl) (p1 : Nat) (hp : pc + 1 = p1) {nA : Nat} {q : Nat} {i v : Int} {f : mu_T → Option α} (hq : q < N) (he : ∀ row, ce q row = .inl (G.1.1 100, nA, .inl (fun j => iI (row (j : Nat))))) (hn : nA < 2147483648) (d : decode cc pc = .ok (.iastore, 1)) (h : wr_ μ q nA i v f = some r) (kk : ∀ μ1, f μ1 = some r → wx_ G X N ad ce μ1 k n p1 lv st) : wx_ G X N ad ce μ k n pc lv (.int (iI v) :: .int (iI i) :: .ref (ad q) :: st) := by
  obtain ⟨p, l, e, R, s, m, args, below, meth, c, Q, A, nL⟩ := X
  intro H locs ls hP hD hS hl
  subst hp
  obtain ⟨⟨h0, h1⟩, h⟩ := ck_e h
  refine va_iast C.1 C.2.1 C.2.2.2.2.1 hP hD hS q 0 ((wl_get hq).trans (by rw [he])) rfl (iI_in h0 h1 hn) d (fun H1 locs1 hP1 hD1 hS1 => ?_)
  have e1 : (upd (fun j : Nat => iI (μ q (j : Int))) (iI i).toNatClampNeg (iI v)) = fun j : Nat => iI (ur_ (μ q) i v (j : Int)) := by
    funext j
    rw [iI_clamp (by omega)]
    unfold upd ur_
    by_cases hj : j = i.toNat
    · rw [if_pos hj, if_pos (by omega)]
    · rw [if_neg hj, if_neg (by omega)]
  rw [e1, ← he, wl_set] at hP1 hD1
  exact kk _ h H1 locs1 ls hP1 hD1 hS1 hl
theorem xx_alen (C : cx_ G X cc own rm ret nl) (p1 : Nat) (hp : pc + 1 = p1) {nA : Nat} {q : Nat} (hq : q < N) (he : ∀ row, ce q row = .inl (G.1.1 100, nA, .inl (fun j => iI (row (j : Nat))))) (d : decode cc pc = .ok (.arraylength, 1)) (h : wx_ G X N ad ce μ k n p1 lv (.int (iI nA) :: st)) : wx_ G X N ad ce μ k n pc lv (.ref (ad q) :: st) := by
  obtain ⟨p, l, e, R, s, m, args, below, meth, c, Q, A, nL⟩ := X
  intro H locs ls hP hD hS hl
  subst hp
  exact va_alen C.1 C.2.1 C.2.2.2.2.1 hP q 0 ((wl_get hq).trans (by rw [he])) rfl (iI_nat nA) d (h H locs ls hP hD hS hl)
theorem xx_iret (C : cx_ G X cc own rm ret nl) {e0 a : Int} {μ2 : mu_T} (E : ei_ G X N ad ce a μ2 rm) (hr : ret = some .int) (hk : k ≤ rm.cells ∧ n ≤ rm.slots) (d : decode cc pc = .ok (.ireturn, 1)) (h : some (e0, μ) = some (a, μ2)) : wx_ G X N ad ce μ k n pc lv [.int (iI e0)] := by
  obtain ⟨p, l, e, R, s, m, args, below, meth, c, Q, A, nL⟩ := X
  intro H locs ls hP hD hS hl
  obtain ⟨rfl, rfl⟩ := Prod.mk.inj (Option.some.inj h)
  obtain ⟨hx, hb, -, -, hK, -, -, hlocks, -, -, hrt, -, -⟩ := C
  subst hr
  rw [show Q = _ from E]
  refine W.widen hk.1 hk.2 ?_
  exact W.iret hx hb hrt (fun t ht hW => ⟨⟨_, (), rfl, rfl, by rw [ht]; exact hP, va_K.moved hW.alike hK, hD⟩, hS.F ht⟩) hS.2.2 d hlocks
theorem xx_zret (C : cx_ G X cc own rm ret nl) {e0 a : Int} {μ2 : mu_T} {ty : FieldType} (E : ei_ G X N ad ce a μ2 rm) (hr : ret = some ty) (hz : narrow ty (.int (iI e0)) = .int (iI e0)) (hk : k ≤ rm.cells ∧ n ≤ rm.slots) (d : decode cc pc = .ok (.ireturn, 1)) (h : some (e0, μ) = some (a, μ2)) : wx_ G X N ad ce μ k n pc lv [.int (iI e0)] := by
  obtain ⟨p, l, e, R, s, m, args, below, meth, c, Q, A, nL⟩ := X
  intro H locs ls hP hD hS hl
  obtain ⟨rfl, rfl⟩ := Prod.mk.inj (Option.some.inj h)
  obtain ⟨hx, hb, -, -, hK, -, -, hlocks, -, -, hrt, -, -⟩ := C
  subst hr
  rw [show Q = _ from E]
  refine W.widen hk.1 hk.2 ?_
  exact W.zret hx hb hrt hz (fun t ht hW => ⟨⟨_, (), rfl, rfl, by rw [ht]; exact hP, va_K.moved hW.alike hK, hD⟩, hS.F ht⟩) hS.2.2 d hlocks
theorem xx_zretz (C : cx_ G X cc own rm ret nl) {e0 a : Int} {μ2 : mu_T} (E : ei_ G X N ad ce a μ2 rm) (hr : ret = some .boolean) (hk : k ≤ rm.cells ∧ n ≤ rm.slots) (d : decode cc pc = .ok (.ireturn, 1)) (h : rz_ e0 μ = some (a, μ2)) : wx_ G X N ad ce μ k n pc lv [.int (iI e0)] := by
  obtain ⟨hz, h⟩ := ck_e h
  exact xx_zret C E hr (by rcases hz with rfl | rfl <;> rfl) hk d h
theorem xx_iretp (C : cx_ G X cc own rm ret nl) {e0 a : Int} (E : ei_ G X N ad ce a μ rm) (hr : ret = some .int) (hk : k ≤ rm.cells ∧ n ≤ rm.slots) (d : decode cc pc = .ok (.ireturn, 1)) (h : some e0 = some a) : wx_ G X N ad ce μ k n pc lv [.int (iI e0)] := xx_iret C E hr hk d (by rw [Option.some.inj h])
theorem xx_zretp (C : cx_ G X cc own rm ret nl) {e0 a : Int} (E : ei_ G X N ad ce a μ rm) (hr : ret = some .boolean) (hk : k ≤ rm.cells ∧ n ≤ rm.slots) (d : decode cc pc = .ok (.ireturn, 1)) (h : ry_ e0 = some a) : wx_ G X N ad ce μ k n pc lv [.int (iI e0)] := by
  obtain ⟨hz, h⟩ := ck_e h
  exact xx_zret C E hr (by rcases hz with rfl | rfl <;> rfl) hk d (by rw [Option.some.inj h])
theorem xx_vret (C : cx_ G X cc own rm ret nl) {μ2 : mu_T} (E : ev_ G X N ad ce μ2 rm) (hr : ret = none) (hk : k ≤ rm.cells ∧ n ≤ rm.slots) (d : decode cc pc = .ok (.return_, 1)) (h : some μ = some μ2) : wx_ G X N ad ce μ k n pc lv [] := by
  obtain ⟨p, l, e, R, s, m, args, below, meth, c, Q, A, nL⟩ := X
  intro H locs ls hP hD hS hl
  obtain rfl := Option.some.inj h
  obtain ⟨hx, hb, -, -, hK, -, -, hlocks, -, -, hrt, -, -⟩ := C
  subst hr
  rw [show Q = _ from E]
  refine W.widen hk.1 hk.2 ?_
  exact W.vret hx hb hrt (fun t ht hW => ⟨⟨(), rfl, trivial, by rw [ht]; exact hP, va_K.moved hW.alike hK, hD⟩, hS.F ht⟩) hS.2.2 d hlocks
theorem xx_vretp (C : cx_ G X cc own rm ret nl) {u9 : Unit} (E : ev_ G X N ad ce μ rm) (hr : ret = none) (hk : k ≤ rm.cells ∧ n ≤ rm.slots) (d : decode cc pc = .ok (.return_, 1)) (h : some () = some u9) : wx_ G X N ad ce μ k n pc lv [] := by
  obtain ⟨p, l, e, R, s, m, args, below, meth, c, Q, A, nL⟩ := X
  intro H locs ls hP hD hS hl
  obtain ⟨hx, hb, -, -, hK, -, -, hlocks, -, -, hrt, -, -⟩ := C
  subst hr
  rw [show Q = _ from E]
  refine W.widen hk.1 hk.2 ?_
  exact W.vret hx hb hrt (fun t ht hW => ⟨⟨(), rfl, trivial, by rw [ht]; exact hP, va_K.moved hW.alike hK, hD⟩, hS.F ht⟩) hS.2.2 d hlocks
/-- what the tables say of a callee -/
def ca_ (y : MethodName) (bytes : ByteArray) (maxL : Nat) (ret2 : Option FieldType) (nA : Nat) : Prop := Cond.initialized y.cls ∈ gT_ ∧ Cond.code y bytes maxL ret2 ∈ gT_ ∧ (y.cls ≠ "java/lang/invoke/MethodHandle" ∧ y.cls ≠ "java/lang/invoke/VarHandle" ∧ (parseMethodDescriptor y.desc).map (fun d => d.parameters.length) = some nA)
def cv_ (y : MethodName) : Prop := Cond.instanceMethod y ∈ gT_ ∧ Cond.selects y.cls y y ∈ gT_
theorem gT_in {bytes : ByteArray} {y : MethodName} {maxL : Nat} {ret2 : Option FieldType} (h : Cond.code y bytes maxL ret2 ∈ gT_) : GoodIn gT_ (Cond.code y bytes maxL ret2 :: gT_) := fun w hw => by
  rcases List.mem_cons.mp hw with rfl | hw
  · exact ⟨h, gT_good h⟩
  · exact ⟨hw, gT_good hw⟩
theorem xx_cKip (C : cx_ G X cc own rm ret nl) (p1 : Nat) (hp : pc + 3 = p1) {F : Option Int} {f : Int → Option α} {y : MethodName} {bytes : ByteArray} {maxL nA index : Nat} {ret2 : Option FieldType} {rm2 : Room} {As : List Value} {z : Int} (hcl : "java/lang/String" = y.cls) (hca : ca_ y bytes maxL ret2 nA) (hcv : cv_ y) (m1 : Cond.methodLink own index y ∈ gT_) (hn : As.length = nA) (hR : rm2.frames + 1 ≤ rm.frames ∧ 8 + (maxL + 11) + rm2.locals ≤ rm.locals) (hf : k + rm2.cells ≤ rm.cells ∧ n + rm2.slots ≤ rm.slots) (hW : (st.map fun v => v.category).sum ≤ 8) (d : decode cc pc = .ok (.invokevirtual index, 3)) (hM : ∀ a, F = some a → mi_ y bytes maxL ret2 rm2 G N ad ce (.ref (G.2.1 (200 + (z : Int).toNat)) :: As) μ a μ) (h : gd_ (0 ≤ z ∧ z < 21) (bd_ F f) = some r) (kk : ∀ a, f a = some r → wx_ G X N ad ce μ (k + rm2.cells) (n + rm2.slots) p1 lv (.int (iI a) :: st)) (hst : stk = As.reverse ++ .ref (G.2.1 (200 + (z : Int).toNat)) :: st) : wx_ G X N ad ce μ k n pc lv stk := by
  obtain ⟨p, l, e, R, s, m, args, below, meth, c, Q, A, nL⟩ := X
  intro H locs ls hP hD hS hl
  subst hp
  have hts := C.2.2.1
  have hK := C.2.2.2.2.1
  have hA := C.2.2.2.2.2.1
  have hAb := C.2.2.2.2.2.2.2.2.1
  have hR' : R = rm := C.2.2.2.2.2.2.2.2.2.1
  have hg := C.2.2.2.2.2.2.2.2.2.2.2.1
  subst hR'
  have hsz : G.2.2 ≤ H.size := by
    have h1 := hAb s.heap.size (hA _ (Nat.le_refl _))
    exact Nat.le_trans h1 hS.1
  have hDb : va_D (fun q => G.2.2 ≤ q) (wl_ N ad ce μ) := hD.weaken (fun _ q _ h => hAb q.1 h)
  have hgH : gk_ G s H := gk_kept hg (fun a h1 h2 => hS.2.1 a h1 (fun q => h2 (hAb a q)))
  have hF : ∀ q, va_A (wl_ N ad ce μ) H.size q → A q := fun q h => by
    rcases h with ⟨j, e9, h⟩ | h
    · exact hD.2 j _ h
    · exact hA q (Nat.le_trans hS.1 h)
  have hpre : ∀ U : State, U.heap = H → s.WarmedH U.vm → pr_ G N ad ce μ H.size U := fun U hU hW9 => ⟨by rw [hU], by rw [hU]; exact hP, va_K.moved hW9.alike hK, hDb, hsz, by rw [hU]; exact gk_warm hW9 hgH⟩
  subst hst
  obtain ⟨⟨hz0, hz1⟩, h⟩ := ck_e h
  obtain ⟨a9, e9, h⟩ := bd_e h
  have hM9 := hM a9 e9 l H.size
  have hpreV : ∀ U : State, U.heap = H → s.WarmedH U.vm → va_Pc (.ref (G.2.1 (200 + (z : Int).toNat)) :: As) (pr_ G N ad ce μ H.size) (Value.ref (G.2.1 (200 + (z : Int).toNat)) :: As).toArray U := fun U hU hW9 => ⟨rfl, hpre U hU hW9⟩
  refine va_calli (va_runV (rest := st) ⟨C.1, C.2.1, C.2.2.2.2.2.2.1, C.2.2.2.1, hts⟩ hM9 ⟨callB_of nA hts (gT_in hca.2.1) rfl rfl rfl (hts _ hca.1) (hts _ m1) hca.2.2 hR, hts _ hcv.1, hts _ hcv.2⟩ ⟨(fun a U g mk q => by obtain ⟨q0, q1, qP, qK, qD, q2, q3⟩ := q; exact ⟨q0, q1, qP, va_K.moved (u := U) (U := U.calling g mk a) (Vm.Alike.refl U.vm) qK, qD, q2, gk_same (u := U) (U := U.calling g mk a) rfl q3⟩), (by have h9 := vk_recv ((hg.1 z.toNat (by omega)).narrow (B := A) hAb) (i := 0) (by decide) hS; rw [hcl] at h9; exact h9), hpreV⟩ rfl hn hl.1 rfl (lv_room hW) d hf) hS (fun q _ h => hF q h) hF (fun r9 u t H1 locs1 ht hvm hw hB hz1 hk1 hS1 => ?_)
  obtain ⟨hP1, hK1, hD1⟩ := hB
  rw [ht] at hP1
  rw [hw]
  exact kk a9 h H1 locs1 ls hP1 (hD1.weaken (fun _ q _ h => hF q.1 h)) hS1 hl
theorem xx_cSvp (C : cx_ G X cc own rm ret nl) (p1 : Nat) (hp : pc + 3 = p1) {F : Option Unit} {f : Unit → Option α} {y : MethodName} {bytes : ByteArray} {maxL nA index : Nat} {rm2 : Room} {As : List Value} (hca : ca_ y bytes maxL none nA) (hcv : Cond.static y ∈ gT_) (m1 : Cond.methodLink own index y ∈ gT_) (hn : As.length = nA) (hR : rm2.frames + 1 ≤ rm.frames ∧ 8 + (maxL + 11) + rm2.locals ≤ rm.locals) (hf : k + rm2.cells ≤ rm.cells ∧ n + rm2.slots ≤ rm.slots) (hW : (st.map fun v => v.category).sum ≤ 8) (d : decode cc pc = .ok (.invokestatic index, 3)) (hM : ∀ a, F = some a → mv_ y bytes maxL rm2 G N ad ce As μ μ) (h : bd_ F f = some r) (kk : ∀ a, f a = some r → wx_ G X N ad ce μ (k + rm2.cells) (n + rm2.slots) p1 lv st) (hst : stk = As.reverse ++ st) : wx_ G X N ad ce μ k n pc lv stk := by
  obtain ⟨p, l, e, R, s, m, args, below, meth, c, Q, A, nL⟩ := X
  intro H locs ls hP hD hS hl
  subst hp
  have hts := C.2.2.1
  have hK := C.2.2.2.2.1
  have hA := C.2.2.2.2.2.1
  have hAb := C.2.2.2.2.2.2.2.2.1
  have hR' : R = rm := C.2.2.2.2.2.2.2.2.2.1
  have hg := C.2.2.2.2.2.2.2.2.2.2.2.1
  subst hR'
  have hsz : G.2.2 ≤ H.size := by
    have h1 := hAb s.heap.size (hA _ (Nat.le_refl _))
    exact Nat.le_trans h1 hS.1
  have hDb : va_D (fun q => G.2.2 ≤ q) (wl_ N ad ce μ) := hD.weaken (fun _ q _ h => hAb q.1 h)
  have hgH : gk_ G s H := gk_kept hg (fun a h1 h2 => hS.2.1 a h1 (fun q => h2 (hAb a q)))
  have hF : ∀ q, va_A (wl_ N ad ce μ) H.size q → A q := fun q h => by
    rcases h with ⟨j, e9, h⟩ | h
    · exact hD.2 j _ h
    · exact hA q (Nat.le_trans hS.1 h)
  have hpre : ∀ U : State, U.heap = H → s.WarmedH U.vm → pr_ G N ad ce μ H.size U := fun U hU hW9 => ⟨by rw [hU], by rw [hU]; exact hP, va_K.moved hW9.alike hK, hDb, hsz, by rw [hU]; exact gk_warm hW9 hgH⟩
  subst hst
  obtain ⟨a9, e9, h⟩ := bd_e h
  have hM9 := hM a9 e9 l H.size
  have hpreV : ∀ U : State, U.heap = H → s.WarmedH U.vm → va_Pc As (pr_ G N ad ce μ H.size) (As).toArray U := fun U hU hW9 => ⟨rfl, hpre U hU hW9⟩
  refine va_callv (va_runS (rest := st) ⟨C.1, C.2.1, C.2.2.2.2.2.2.1, C.2.2.2.1, hts⟩ hM9 ⟨callB_of nA hts (gT_in hca.2.1) rfl rfl rfl (hts _ hca.1) (hts _ m1) hca.2.2 hR, hts _ hcv⟩ ⟨(fun a U g mk q => by obtain ⟨q0, q1, qP, qK, qD, q2, q3⟩ := q; exact ⟨q0, q1, qP, va_K.moved (u := U) (U := U.calling g mk a) (Vm.Alike.refl U.vm) qK, qD, q2, gk_same (u := U) (U := U.calling g mk a) rfl q3⟩), hpreV⟩ rfl hn hl.1 rfl (lv_room hW) d hf) hS (fun q _ h => hF q h) hF (fun u t H1 locs1 ht hvm hw hB hz1 hk1 hS1 => ?_)
  obtain ⟨hP1, hK1, hD1⟩ := hB
  rw [ht] at hP1
  exact kk a9 h H1 locs1 ls hP1 (hD1.weaken (fun _ q _ h => hF q.1 h)) hS1 hl
theorem xx_cVi (C : cx_ G X cc own rm ret nl) (p1 : Nat) (hp : pc + 3 = p1) {F : Option (Int × mu_T)} {f : Int → mu_T → Option α} {y : MethodName} {bytes : ByteArray} {maxL nA index : Nat} {ret2 : Option FieldType} {rm2 : Room} {As : List Value} {ci o : Nat} {fs : List Value} {qc : vw_C} (ho : o < N) (he : ce o (μ o) = .inr (ci, fs)) (hc : vwCl[ci]? = some qc) (hcl : qc.1 = y.cls) (hca : ca_ y bytes maxL ret2 nA) (hcv : cv_ y) (m1 : Cond.methodLink own index y ∈ gT_) (hn : As.length = nA) (hR : rm2.frames + 1 ≤ rm.frames ∧ 8 + (maxL + 11) + rm2.locals ≤ rm.locals) (hf : k + rm2.cells ≤ rm.cells ∧ n + rm2.slots ≤ rm.slots) (hW : (st.map fun v => v.category).sum ≤ 8) (d : decode cc pc = .ok (.invokevirtual index, 3)) (hM : ∀ a μ1, F = some (a, μ1) → mi_ y bytes maxL ret2 rm2 G N ad ce (.ref (ad o) :: As) μ a μ1) (h : bp_ F f = some r) (kk : ∀ a μ1, f a μ1 = some r → wx_ G X N ad ce μ1 (k + rm2.cells) (n + rm2.slots) p1 lv (.int (iI a) :: st)) (hst : stk = As.reverse ++ .ref (ad o) :: st) : wx_ G X N ad ce μ k n pc lv stk := by
  obtain ⟨p, l, e, R, s, m, args, below, meth, c, Q, A, nL⟩ := X
  intro H locs ls hP hD hS hl
  subst hp
  have hts := C.2.2.1
  have hK := C.2.2.2.2.1
  have hA := C.2.2.2.2.2.1
  have hAb := C.2.2.2.2.2.2.2.2.1
  have hR' : R = rm := C.2.2.2.2.2.2.2.2.2.1
  have hg := C.2.2.2.2.2.2.2.2.2.2.2.1
  subst hR'
  have hsz : G.2.2 ≤ H.size := by
    have h1 := hAb s.heap.size (hA _ (Nat.le_refl _))
    exact Nat.le_trans h1 hS.1
  have hDb : va_D (fun q => G.2.2 ≤ q) (wl_ N ad ce μ) := hD.weaken (fun _ q _ h => hAb q.1 h)
  have hgH : gk_ G s H := gk_kept hg (fun a h1 h2 => hS.2.1 a h1 (fun q => h2 (hAb a q)))
  have hF : ∀ q, va_A (wl_ N ad ce μ) H.size q → A q := fun q h => by
    rcases h with ⟨j, e9, h⟩ | h
    · exact hD.2 j _ h
    · exact hA q (Nat.le_trans hS.1 h)
  have hpre : ∀ U : State, U.heap = H → s.WarmedH U.vm → pr_ G N ad ce μ H.size U := fun U hU hW9 => ⟨by rw [hU], by rw [hU]; exact hP, va_K.moved hW9.alike hK, hDb, hsz, by rw [hU]; exact gk_warm hW9 hgH⟩
  subst hst
  obtain ⟨a9, μ9, e9, h⟩ := bp_e h
  have hM9 := hM a9 μ9 e9 l H.size
  have hpreV : ∀ U : State, U.heap = H → s.WarmedH U.vm → va_Pc (.ref (ad o) :: As) (pr_ G N ad ce μ H.size) (Value.ref (ad o) :: As).toArray U := fun U hU hW9 => ⟨rfl, hpre U hU hW9⟩
  refine va_calli (va_runV (rest := st) ⟨C.1, C.2.1, C.2.2.2.2.2.2.1, C.2.2.2.1, hts⟩ hM9 ⟨callB_of nA hts (gT_in hca.2.1) rfl rfl rfl (hts _ hca.1) (hts _ m1) hca.2.2 hR, hts _ hcv.1, hts _ hcv.2⟩ ⟨(fun a U g mk q => by obtain ⟨q0, q1, qP, qK, qD, q2, q3⟩ := q; exact ⟨q0, q1, qP, va_K.moved (u := U) (U := U.calling g mk a) (Vm.Alike.refl U.vm) qK, qD, q2, gk_same (u := U) (U := U.calling g mk a) rfl q3⟩), (by have h9 := va_recv hK hP hc ((wl_get ho).trans (by rw [he])); rw [hcl] at h9; exact h9), hpreV⟩ rfl hn hl.1 rfl (lv_room hW) d hf) hS (fun q _ h => hF q h) hF (fun r9 u t H1 locs1 ht hvm hw hB hz1 hk1 hS1 => ?_)
  obtain ⟨hP1, hK1, hD1⟩ := hB
  rw [ht] at hP1
  rw [hw]
  exact kk a9 μ9 h H1 locs1 ls hP1 (hD1.weaken (fun _ q _ h => hF q.1 h)) hS1 hl
theorem xx_cVip (C : cx_ G X cc own rm ret nl) (p1 : Nat) (hp : pc + 3 = p1) {F : Option Int} {f : Int → Option α} {y : MethodName} {bytes : ByteArray} {maxL nA index : Nat} {ret2 : Option FieldType} {rm2 : Room} {As : List Value} {ci o : Nat} {fs : List Value} {qc : vw_C} (ho : o < N) (he : ce o (μ o) = .inr (ci, fs)) (hc : vwCl[ci]? = some qc) (hcl : qc.1 = y.cls) (hca : ca_ y bytes maxL ret2 nA) (hcv : cv_ y) (m1 : Cond.methodLink own index y ∈ gT_) (hn : As.length = nA) (hR : rm2.frames + 1 ≤ rm.frames ∧ 8 + (maxL + 11) + rm2.locals ≤ rm.locals) (hf : k + rm2.cells ≤ rm.cells ∧ n + rm2.slots ≤ rm.slots) (hW : (st.map fun v => v.category).sum ≤ 8) (d : decode cc pc = .ok (.invokevirtual index, 3)) (hM : ∀ a, F = some a → mi_ y bytes maxL ret2 rm2 G N ad ce (.ref (ad o) :: As) μ a μ) (h : bd_ F f = some r) (kk : ∀ a, f a = some r → wx_ G X N ad ce μ (k + rm2.cells) (n + rm2.slots) p1 lv (.int (iI a) :: st)) (hst : stk = As.reverse ++ .ref (ad o) :: st) : wx_ G X N ad ce μ k n pc lv stk := by
  obtain ⟨p, l, e, R, s, m, args, below, meth, c, Q, A, nL⟩ := X
  intro H locs ls hP hD hS hl
  subst hp
  have hts := C.2.2.1
  have hK := C.2.2.2.2.1
  have hA := C.2.2.2.2.2.1
  have hAb := C.2.2.2.2.2.2.2.2.1
  have hR' : R = rm := C.2.2.2.2.2.2.2.2.2.1
  have hg := C.2.2.2.2.2.2.2.2.2.2.2.1
  subst hR'
  have hsz : G.2.2 ≤ H.size := by
    have h1 := hAb s.heap.size (hA _ (Nat.le_refl _))
    exact Nat.le_trans h1 hS.1
  have hDb : va_D (fun q => G.2.2 ≤ q) (wl_ N ad ce μ) := hD.weaken (fun _ q _ h => hAb q.1 h)
  have hgH : gk_ G s H := gk_kept hg (fun a h1 h2 => hS.2.1 a h1 (fun q => h2 (hAb a q)))
  have hF : ∀ q, va_A (wl_ N ad ce μ) H.size q → A q := fun q h => by
    rcases h with ⟨j, e9, h⟩ | h
    · exact hD.2 j _ h
    · exact hA q (Nat.le_trans hS.1 h)
  have hpre : ∀ U : State, U.heap = H → s.WarmedH U.vm → pr_ G N ad ce μ H.size U := fun U hU hW9 => ⟨by rw [hU], by rw [hU]; exact hP, va_K.moved hW9.alike hK, hDb, hsz, by rw [hU]; exact gk_warm hW9 hgH⟩
  subst hst
  obtain ⟨a9, e9, h⟩ := bd_e h
  have hM9 := hM a9 e9 l H.size
  have hpreV : ∀ U : State, U.heap = H → s.WarmedH U.vm → va_Pc (.ref (ad o) :: As) (pr_ G N ad ce μ H.size) (Value.ref (ad o) :: As).toArray U := fun U hU hW9 => ⟨rfl, hpre U hU hW9⟩
  refine va_calli (va_runV (rest := st) ⟨C.1, C.2.1, C.2.2.2.2.2.2.1, C.2.2.2.1, hts⟩ hM9 ⟨callB_of nA hts (gT_in hca.2.1) rfl rfl rfl (hts _ hca.1) (hts _ m1) hca.2.2 hR, hts _ hcv.1, hts _ hcv.2⟩ ⟨(fun a U g mk q => by obtain ⟨q0, q1, qP, qK, qD, q2, q3⟩ := q; exact ⟨q0, q1, qP, va_K.moved (u := U) (U := U.calling g mk a) (Vm.Alike.refl U.vm) qK, qD, q2, gk_same (u := U) (U := U.calling g mk a) rfl q3⟩), (by have h9 := va_recv hK hP hc ((wl_get ho).trans (by rw [he])); rw [hcl] at h9; exact h9), hpreV⟩ rfl hn hl.1 rfl (lv_room hW) d hf) hS (fun q _ h => hF q h) hF (fun r9 u t H1 locs1 ht hvm hw hB hz1 hk1 hS1 => ?_)
  obtain ⟨hP1, hK1, hD1⟩ := hB
  rw [ht] at hP1
  rw [hw]
  exact kk a9 h H1 locs1 ls hP1 (hD1.weaken (fun _ q _ h => hF q.1 h)) hS1 hl
theorem xx_cVv (C : cx_ G X cc own rm ret nl) (p1 : Nat) (hp : pc + 3 = p1) {F : Option mu_T} {f : mu_T → Option α} {y : MethodName} {bytes : ByteArray} {maxL nA index : Nat} {rm2 : Room} {As : List Value} {ci o : Nat} {fs : List Value} {qc : vw_C} (ho : o < N) (he : ce o (μ o) = .inr (ci, fs)) (hc : vwCl[ci]? = some qc) (hcl : qc.1 = y.cls) (hca : ca_ y bytes maxL none nA) (hcv : cv_ y) (m1 : Cond.methodLink own index y ∈ gT_) (hn : As.length = nA) (hR : rm2.frames + 1 ≤ rm.frames ∧ 8 + (maxL + 11) + rm2.locals ≤ rm.locals) (hf : k + rm2.cells ≤ rm.cells ∧ n + rm2.slots ≤ rm.slots) (hW : (st.map fun v => v.category).sum ≤ 8) (d : decode cc pc = .ok (.invokevirtual index, 3)) (hM : ∀ μ1, F = some μ1 → mv_ y bytes maxL rm2 G N ad ce (.ref (ad o) :: As) μ μ1) (h : bd_ F f = some r) (kk : ∀ μ1, f μ1 = some r → wx_ G X N ad ce μ1 (k + rm2.cells) (n + rm2.slots) p1 lv st) (hst : stk = As.reverse ++ .ref (ad o) :: st) : wx_ G X N ad ce μ k n pc lv stk := by
  obtain ⟨p, l, e, R, s, m, args, below, meth, c, Q, A, nL⟩ := X
  intro H locs ls hP hD hS hl
  subst hp
  have hts := C.2.2.1
  have hK := C.2.2.2.2.1
  have hA := C.2.2.2.2.2.1
  have hAb := C.2.2.2.2.2.2.2.2.1
  have hR' : R = rm := C.2.2.2.2.2.2.2.2.2.1
  have hg := C.2.2.2.2.2.2.2.2.2.2.2.1
  subst hR'
  have hsz : G.2.2 ≤ H.size := by
    have h1 := hAb s.heap.size (hA _ (Nat.le_refl _))
    exact Nat.le_trans h1 hS.1
  have hDb : va_D (fun q => G.2.2 ≤ q) (wl_ N ad ce μ) := hD.weaken (fun _ q _ h => hAb q.1 h)
  have hgH : gk_ G s H := gk_kept hg (fun a h1 h2 => hS.2.1 a h1 (fun q => h2 (hAb a q)))
  have hF : ∀ q, va_A (wl_ N ad ce μ) H.size q → A q := fun q h => by
    rcases h with ⟨j, e9, h⟩ | h
    · exact hD.2 j _ h
    · exact hA q (Nat.le_trans hS.1 h)
  have hpre : ∀ U : State, U.heap = H → s.WarmedH U.vm → pr_ G N ad ce μ H.size U := fun U hU hW9 => ⟨by rw [hU], by rw [hU]; exact hP, va_K.moved hW9.alike hK, hDb, hsz, by rw [hU]; exact gk_warm hW9 hgH⟩
  subst hst
  obtain ⟨a9, e9, h⟩ := bd_e h
  have hM9 := hM a9 e9 l H.size
  have hpreV : ∀ U : State, U.heap = H → s.WarmedH U.vm → va_Pc (.ref (ad o) :: As) (pr_ G N ad ce μ H.size) (Value.ref (ad o) :: As).toArray U := fun U hU hW9 => ⟨rfl, hpre U hU hW9⟩
  refine va_callv (va_runV (rest := st) ⟨C.1, C.2.1, C.2.2.2.2.2.2.1, C.2.2.2.1, hts⟩ hM9 ⟨callB_of nA hts (gT_in hca.2.1) rfl rfl rfl (hts _ hca.1) (hts _ m1) hca.2.2 hR, hts _ hcv.1, hts _ hcv.2⟩ ⟨(fun a U g mk q => by obtain ⟨q0, q1, qP, qK, qD, q2, q3⟩ := q; exact ⟨q0, q1, qP, va_K.moved (u := U) (U := U.calling g mk a) (Vm.Alike.refl U.vm) qK, qD, q2, gk_same (u := U) (U := U.calling g mk a) rfl q3⟩), (by have h9 := va_recv hK hP hc ((wl_get ho).trans (by rw [he])); rw [hcl] at h9; exact h9), hpreV⟩ rfl hn hl.1 rfl (lv_room hW) d hf) hS (fun q _ h => hF q h) hF (fun u t H1 locs1 ht hvm hw hB hz1 hk1 hS1 => ?_)
  obtain ⟨hP1, hK1, hD1⟩ := hB
  rw [ht] at hP1
  exact kk a9 h H1 locs1 ls hP1 (hD1.weaken (fun _ q _ h => hF q.1 h)) hS1 hl
theorem xx_cSi (C : cx_ G X cc own rm ret nl) (p1 : Nat) (hp : pc + 3 = p1) {F : Option (Int × mu_T)} {f : Int → mu_T → Option α} {y : MethodName} {bytes : ByteArray} {maxL nA index : Nat} {ret2 : Option FieldType} {rm2 : Room} {As : List Value} (hca : ca_ y bytes maxL ret2 nA) (hcv : Cond.static y ∈ gT_) (m1 : Cond.methodLink own index y ∈ gT_) (hn : As.length = nA) (hR : rm2.frames + 1 ≤ rm.frames ∧ 8 + (maxL + 11) + rm2.locals ≤ rm.locals) (hf : k + rm2.cells ≤ rm.cells ∧ n + rm2.slots ≤ rm.slots) (hW : (st.map fun v => v.category).sum ≤ 8) (d : decode cc pc = .ok (.invokestatic index, 3)) (hM : ∀ a μ1, F = some (a, μ1) → mi_ y bytes maxL ret2 rm2 G N ad ce As μ a μ1) (h : bp_ F f = some r) (kk : ∀ a μ1, f a μ1 = some r → wx_ G X N ad ce μ1 (k + rm2.cells) (n + rm2.slots) p1 lv (.int (iI a) :: st)) (hst : stk = As.reverse ++ st) : wx_ G X N ad ce μ k n pc lv stk := by
  obtain ⟨p, l, e, R, s, m, args, below, meth, c, Q, A, nL⟩ := X
  intro H locs ls hP hD hS hl
  subst hp
  have hts := C.2.2.1
  have hK := C.2.2.2.2.1
  have hA := C.2.2.2.2.2.1
  have hAb := C.2.2.2.2.2.2.2.2.1
  have hR' : R = rm := C.2.2.2.2.2.2.2.2.2.1
  have hg := C.2.2.2.2.2.2.2.2.2.2.2.1
  subst hR'
  have hsz : G.2.2 ≤ H.size := by
    have h1 := hAb s.heap.size (hA _ (Nat.le_refl _))
    exact Nat.le_trans h1 hS.1
  have hDb : va_D (fun q => G.2.2 ≤ q) (wl_ N ad ce μ) := hD.weaken (fun _ q _ h => hAb q.1 h)
  have hgH : gk_ G s H := gk_kept hg (fun a h1 h2 => hS.2.1 a h1 (fun q => h2 (hAb a q)))
  have hF : ∀ q, va_A (wl_ N ad ce μ) H.size q → A q := fun q h => by
    rcases h with ⟨j, e9, h⟩ | h
    · exact hD.2 j _ h
    · exact hA q (Nat.le_trans hS.1 h)
  have hpre : ∀ U : State, U.heap = H → s.WarmedH U.vm → pr_ G N ad ce μ H.size U := fun U hU hW9 => ⟨by rw [hU], by rw [hU]; exact hP, va_K.moved hW9.alike hK, hDb, hsz, by rw [hU]; exact gk_warm hW9 hgH⟩
  subst hst
  obtain ⟨a9, μ9, e9, h⟩ := bp_e h
  have hM9 := hM a9 μ9 e9 l H.size
  have hpreV : ∀ U : State, U.heap = H → s.WarmedH U.vm → va_Pc As (pr_ G N ad ce μ H.size) (As).toArray U := fun U hU hW9 => ⟨rfl, hpre U hU hW9⟩
  refine va_calli (va_runS (rest := st) ⟨C.1, C.2.1, C.2.2.2.2.2.2.1, C.2.2.2.1, hts⟩ hM9 ⟨callB_of nA hts (gT_in hca.2.1) rfl rfl rfl (hts _ hca.1) (hts _ m1) hca.2.2 hR, hts _ hcv⟩ ⟨(fun a U g mk q => by obtain ⟨q0, q1, qP, qK, qD, q2, q3⟩ := q; exact ⟨q0, q1, qP, va_K.moved (u := U) (U := U.calling g mk a) (Vm.Alike.refl U.vm) qK, qD, q2, gk_same (u := U) (U := U.calling g mk a) rfl q3⟩), hpreV⟩ rfl hn hl.1 rfl (lv_room hW) d hf) hS (fun q _ h => hF q h) hF (fun r9 u t H1 locs1 ht hvm hw hB hz1 hk1 hS1 => ?_)
  obtain ⟨hP1, hK1, hD1⟩ := hB
  rw [ht] at hP1
  rw [hw]
  exact kk a9 μ9 h H1 locs1 ls hP1 (hD1.weaken (fun _ q _ h => hF q.1 h)) hS1 hl
theorem xx_cSip (C : cx_ G X cc own rm ret nl) (p1 : Nat) (hp : pc + 3 = p1) {F : Option Int} {f : Int → Option α} {y : MethodName} {bytes : ByteArray} {maxL nA index : Nat} {ret2 : Option FieldType} {rm2 : Room} {As : List Value} (hca : ca_ y bytes maxL ret2 nA) (hcv : Cond.static y ∈ gT_) (m1 : Cond.methodLink own index y ∈ gT_) (hn : As.length = nA) (hR : rm2.frames + 1 ≤ rm.frames ∧ 8 + (maxL + 11) + rm2.locals ≤ rm.locals) (hf : k + rm2.cells ≤ rm.cells ∧ n + rm2.slots ≤ rm.slots) (hW : (st.map fun v => v.category).sum ≤ 8) (d : decode cc pc = .ok (.invokestatic index, 3)) (hM : ∀ a, F = some a → mi_ y bytes maxL ret2 rm2 G N ad ce As μ a μ) (h : bd_ F f = some r) (kk : ∀ a, f a = some r → wx_ G X N ad ce μ (k + rm2.cells) (n + rm2.slots) p1 lv (.int (iI a) :: st)) (hst : stk = As.reverse ++ st) : wx_ G X N ad ce μ k n pc lv stk := by
  obtain ⟨p, l, e, R, s, m, args, below, meth, c, Q, A, nL⟩ := X
  intro H locs ls hP hD hS hl
  subst hp
  have hts := C.2.2.1
  have hK := C.2.2.2.2.1
  have hA := C.2.2.2.2.2.1
  have hAb := C.2.2.2.2.2.2.2.2.1
  have hR' : R = rm := C.2.2.2.2.2.2.2.2.2.1
  have hg := C.2.2.2.2.2.2.2.2.2.2.2.1
  subst hR'
  have hsz : G.2.2 ≤ H.size := by
    have h1 := hAb s.heap.size (hA _ (Nat.le_refl _))
    exact Nat.le_trans h1 hS.1
  have hDb : va_D (fun q => G.2.2 ≤ q) (wl_ N ad ce μ) := hD.weaken (fun _ q _ h => hAb q.1 h)
  have hgH : gk_ G s H := gk_kept hg (fun a h1 h2 => hS.2.1 a h1 (fun q => h2 (hAb a q)))
  have hF : ∀ q, va_A (wl_ N ad ce μ) H.size q → A q := fun q h => by
    rcases h with ⟨j, e9, h⟩ | h
    · exact hD.2 j _ h
    · exact hA q (Nat.le_trans hS.1 h)
  have hpre : ∀ U : State, U.heap = H → s.WarmedH U.vm → pr_ G N ad ce μ H.size U := fun U hU hW9 => ⟨by rw [hU], by rw [hU]; exact hP, va_K.moved hW9.alike hK, hDb, hsz, by rw [hU]; exact gk_warm hW9 hgH⟩
  subst hst
  obtain ⟨a9, e9, h⟩ := bd_e h
  have hM9 := hM a9 e9 l H.size
  have hpreV : ∀ U : State, U.heap = H → s.WarmedH U.vm → va_Pc As (pr_ G N ad ce μ H.size) (As).toArray U := fun U hU hW9 => ⟨rfl, hpre U hU hW9⟩
  refine va_calli (va_runS (rest := st) ⟨C.1, C.2.1, C.2.2.2.2.2.2.1, C.2.2.2.1, hts⟩ hM9 ⟨callB_of nA hts (gT_in hca.2.1) rfl rfl rfl (hts _ hca.1) (hts _ m1) hca.2.2 hR, hts _ hcv⟩ ⟨(fun a U g mk q => by obtain ⟨q0, q1, qP, qK, qD, q2, q3⟩ := q; exact ⟨q0, q1, qP, va_K.moved (u := U) (U := U.calling g mk a) (Vm.Alike.refl U.vm) qK, qD, q2, gk_same (u := U) (U := U.calling g mk a) rfl q3⟩), hpreV⟩ rfl hn hl.1 rfl (lv_room hW) d hf) hS (fun q _ h => hF q h) hF (fun r9 u t H1 locs1 ht hvm hw hB hz1 hk1 hS1 => ?_)
  obtain ⟨hP1, hK1, hD1⟩ := hB
  rw [ht] at hP1
  rw [hw]
  exact kk a9 h H1 locs1 ls hP1 (hD1.weaken (fun _ q _ h => hF q.1 h)) hS1 hl
theorem xx_cSv (C : cx_ G X cc own rm ret nl) (p1 : Nat) (hp : pc + 3 = p1) {F : Option mu_T} {f : mu_T → Option α} {y : MethodName} {bytes : ByteArray} {maxL nA index : Nat} {rm2 : Room} {As : List Value} (hca : ca_ y bytes maxL none nA) (hcv : Cond.static y ∈ gT_) (m1 : Cond.methodLink own index y ∈ gT_) (hn : As.length = nA) (hR : rm2.frames + 1 ≤ rm.frames ∧ 8 + (maxL + 11) + rm2.locals ≤ rm.locals) (hf : k + rm2.cells ≤ rm.cells ∧ n + rm2.slots ≤ rm.slots) (hW : (st.map fun v => v.category).sum ≤ 8) (d : decode cc pc = .ok (.invokestatic index, 3)) (hM : ∀ μ1, F = some μ1 → mv_ y bytes maxL rm2 G N ad ce As μ μ1) (h : bd_ F f = some r) (kk : ∀ μ1, f μ1 = some r → wx_ G X N ad ce μ1 (k + rm2.cells) (n + rm2.slots) p1 lv st) (hst : stk = As.reverse ++ st) : wx_ G X N ad ce μ k n pc lv stk := by
  obtain ⟨p, l, e, R, s, m, args, below, meth, c, Q, A, nL⟩ := X
  intro H locs ls hP hD hS hl
  subst hp
  have hts := C.2.2.1
  have hK := C.2.2.2.2.1
  have hA := C.2.2.2.2.2.1
  have hAb := C.2.2.2.2.2.2.2.2.1
  have hR' : R = rm := C.2.2.2.2.2.2.2.2.2.1
  have hg := C.2.2.2.2.2.2.2.2.2.2.2.1
  subst hR'
  have hsz : G.2.2 ≤ H.size := by
    have h1 := hAb s.heap.size (hA _ (Nat.le_refl _))
    exact Nat.le_trans h1 hS.1
  have hDb : va_D (fun q => G.2.2 ≤ q) (wl_ N ad ce μ) := hD.weaken (fun _ q _ h => hAb q.1 h)
  have hgH : gk_ G s H := gk_kept hg (fun a h1 h2 => hS.2.1 a h1 (fun q => h2 (hAb a q)))
  have hF : ∀ q, va_A (wl_ N ad ce μ) H.size q → A q := fun q h => by
    rcases h with ⟨j, e9, h⟩ | h
    · exact hD.2 j _ h
    · exact hA q (Nat.le_trans hS.1 h)
  have hpre : ∀ U : State, U.heap = H → s.WarmedH U.vm → pr_ G N ad ce μ H.size U := fun U hU hW9 => ⟨by rw [hU], by rw [hU]; exact hP, va_K.moved hW9.alike hK, hDb, hsz, by rw [hU]; exact gk_warm hW9 hgH⟩
  subst hst
  obtain ⟨a9, e9, h⟩ := bd_e h
  have hM9 := hM a9 e9 l H.size
  have hpreV : ∀ U : State, U.heap = H → s.WarmedH U.vm → va_Pc As (pr_ G N ad ce μ H.size) (As).toArray U := fun U hU hW9 => ⟨rfl, hpre U hU hW9⟩
  refine va_callv (va_runS (rest := st) ⟨C.1, C.2.1, C.2.2.2.2.2.2.1, C.2.2.2.1, hts⟩ hM9 ⟨callB_of nA hts (gT_in hca.2.1) rfl rfl rfl (hts _ hca.1) (hts _ m1) hca.2.2 hR, hts _ hcv⟩ ⟨(fun a U g mk q => by obtain ⟨q0, q1, qP, qK, qD, q2, q3⟩ := q; exact ⟨q0, q1, qP, va_K.moved (u := U) (U := U.calling g mk a) (Vm.Alike.refl U.vm) qK, qD, q2, gk_same (u := U) (U := U.calling g mk a) rfl q3⟩), hpreV⟩ rfl hn hl.1 rfl (lv_room hW) d hf) hS (fun q _ h => hF q h) hF (fun u t H1 locs1 ht hvm hw hB hz1 hk1 hS1 => ?_)
  obtain ⟨hP1, hK1, hD1⟩ := hB
  rw [ht] at hP1
  exact kk a9 h H1 locs1 ls hP1 (hD1.weaken (fun _ q _ h => hF q.1 h)) hS1 hl
theorem xx_zretl (C : cx_ G X cc own rm ret nl) {e0 a : Int} {ty : FieldType} (E : ei_ G X N ad ce a μ rm) (hr : ret = some ty) (hz : narrow ty (.int (iI e0)) = .int (iI e0)) (hk : k ≤ rm.cells ∧ n ≤ rm.slots) (d : decode cc pc = .ok (.ireturn, 1)) (h : some e0 = some a) : wx_ G X N ad ce μ k n pc lv [.int (iI e0)] := xx_zret C E hr hz hk d (by rw [Option.some.inj h])
theorem jn_r {φ : Type} {f : φ} {kf : φ → Option α} {Z : Prop} (P : φ → Prop) (h : jn_ f kf = some r) (K : P f) (B : ∀ J, P J → kf J = some r → Z) : Z := B f K h
/-- the targets of a switch, one behind another -/
def al_ (G : gp_) (X : ct_) (N : Nat) (ad : Nat → Nat) (ce : Nat → (Int → Int) → va_E) (μ : mu_T) (k n : Nat) (lv : List (Nat × Value)) (st : List Value) (r : α) : List (Option α) → List Nat → Prop
  | b :: bs, t :: ts => (b = some r → wx_ G X N ad ce μ k n t lv st) ∧ al_ G X N ad ce μ k n lv st r bs ts
  | _, _ => True
theorem al_at (i : Nat) : ∀ {bs : List (Option α)} {ts : List Nat} {b : Option α} {t : Nat}, al_ G X N ad ce μ k n lv st r bs ts → bs[i]? = some b → ts[i]? = some t → b = some r → wx_ G X N ad ce μ k n t lv st := by
  induction i with
  | zero =>
    intro bs ts b t h hb ht hr
    cases bs with
    | nil => cases hb
    | cons b1 bs => cases ts with
      | nil => cases ht
      | cons t1 ts => cases hb; cases ht; exact h.1 hr
  | succ i ih =>
    intro bs ts b t h hb ht hr
    cases bs with
    | nil => cases hb
    | cons b1 bs => cases ts with
      | nil => cases ht
      | cons t1 ts => exact ih h.2 hb ht hr
theorem xx_tsw (C : cx_ G X cc own rm ret nl) {a dflt lo hi : Int} {offs : Array Int} {len : Nat} (vs : List Int) (bs : List (Option α)) (ts : List Nat) (tD : Nat) {df : Option α} (d : decode cc pc = .ok (.tableswitch dflt lo hi offs, len)) (hc : tk_ pc dflt lo hi offs.toList vs ts tD = true) (hl2 : vs.length = bs.length) (h : ts_ a vs bs df = some r) (kd : df = some r → wx_ G X N ad ce μ k n tD lv st) (kk : al_ G X N ad ce μ k n lv st r bs ts) : wx_ G X N ad ce μ k n pc lv (.int (iI a) :: st) := by
  obtain ⟨p, l, e, R, s, m, args, below, meth, c, Q, A, nL⟩ := X
  intro H locs ls hP hD hS hl
  obtain ⟨hr, h⟩ := ck_e h
  rcases tw_e2 hl2 h with ⟨hno, h⟩ | ⟨i, b, h1, h2, h3⟩
  · by_cases hlo : a < lo ∨ hi < a
    · exact lv_tableOut C.1 C.2.1 d (by rw [iI_toInt hr]; exact hlo) (tk_d hc) (kd h H locs ls hP hD hS hl)
    · obtain ⟨off, ho, he⟩ := tk_o hc (a := a) (by omega) hno
      exact lv_tableIn C.1 C.2.1 d (by rw [iI_toInt hr]; omega) (by rw [iI_toInt hr]; omega) (by rw [iI_toInt hr, ← Array.getElem?_toList]; exact ho) he (kd h H locs ls hP hD hS hl)
  · obtain ⟨t, off, ht, ho, he, h4, h5⟩ := tk_i hc h1
    exact lv_tableIn C.1 C.2.1 d (by rw [iI_toInt hr]; omega) (by rw [iI_toInt hr]; omega) (by rw [iI_toInt hr, ← Array.getElem?_toList]; exact ho) he (al_at i kk h2 ht h3 H locs ls hP hD hS hl)
end XR
end
section
/-! more rows over wx_ (written by wip/gen/rows2.py) -/
def sn_ (k : Int) : Int := ((skl_.getD k.toNat []).length : Nat)
def sc_ (k i : Int) : Int := (skl_.getD k.toNat []).getD i.toNat 0
def bl_ (μ : mu_T) (q : Nat) : Int := ((μ q (-1)).toNat : Int)
def rb_ {α : Type} (μ : mu_T) (q : Nat) (i : Int) (f : Int → Option α) : Option α := if (0 ≤ i ∧ i < bl_ μ q) ∧ bl_ μ q < 2147483648 then f (μ q i) else none
def wb_ {α : Type} (μ : mu_T) (q : Nat) (i v : Int) (f : mu_T → Option α) : Option α := if (0 ≤ i ∧ i < bl_ μ q) ∧ bl_ μ q < 2147483648 then f (st_ μ q i (i2b_ v)) else none
def kv_ (G : gp_) (x : Int) : Option Nat := if x < 0 then none else some (G.2.1 (100 + x.toNat))
def rs_ {α : Type} (k i : Int) (f : Int → Option α) : Option α := if (0 ≤ k ∧ k < 21) ∧ 0 ≤ i ∧ i < sn_ k then f (sc_ k i) else none
def ac_ {α : Type} (μ : mu_T) (q1 n1 : Nat) (p1 : Int) (q2 n2 : Nat) (p2 len : Int) (f : mu_T → Option α) : Option α := if 0 ≤ p1 ∧ 0 ≤ p2 ∧ 0 ≤ len ∧ p1 + len ≤ n1 ∧ p2 + len ≤ n2 then f (um_ μ q2 (fun j => if p2 ≤ j ∧ j < p2 + len then μ q1 (p1 + (j - p2)) else μ q2 j)) else none
def rc_ (v : Int) : Option Int := if 0 ≤ v ∧ v < 65536 then some v else none
def mn_ {α : Type} (a b : Int) (f : Int → Option α) : Option α := if rg_ a ∧ rg_ b then f (if b < a then b else a) else none
def mx_ {α : Type} (a b : Int) (f : Int → Option α) : Option α := if rg_ a ∧ rg_ b then f (if a < b then b else a) else none
def dd_ {α : Type} (x y : UInt64) (f : UInt64 → Option α) : Option α := if FP.ddiv x y &&& 0x7fffffffffffffff ≤ 0x7ff0000000000000 then f (FP.ddiv x y) else none
def fd_ {α : Type} (x y : UInt32) (f : UInt32 → Option α) : Option α := if FP.fdiv x y &&& 0x7fffffff ≤ 0x7f800000 then f (FP.fdiv x y) else none
theorem skl_len : ∀ i, i < 21 → (skl_.getD i []).length < 100 := by decide +kernel
section XR
variable {G : gp_} {X : ct_} {N : Nat} {ad : Nat → Nat} {ce : Nat → (Int → Int) → va_E} {μ : mu_T} {k n pc : Nat} {lv lv1 : List (Nat × Value)} {st stk : List Value} {cc : ByteArray} {own : String} {rm : Room} {ret : Option FieldType} {nl : Nat} {α : Type} {r : α}
theorem xx_strv (C : cx_ G X cc own rm ret nl) (p1 : Nat) (hp : pc + 3 = p1) {z : Int} {x : Option α} {index : Nat} (hlink : Cond.fieldLink own index "java/lang/String" "value" "[B" ∈ gT_) (d : decode cc pc = .ok (.getfield index, 3)) (h : gd_ (0 ≤ z ∧ z < 21) x = some r) (kk : x = some r → wx_ G X N ad ce μ k n p1 lv (.ref (G.2.1 (300 + (z : Int).toNat)) :: st)) : wx_ G X N ad ce μ k n pc lv (.ref (G.2.1 (200 + (z : Int).toNat)) :: st) := by
  obtain ⟨p, l, e, R, s, m, args, below, meth, c, Q, A, nL⟩ := X
  intro H locs ls hP hD hS hl
  subst hp
  obtain ⟨⟨hz0, hz1⟩, h⟩ := ck_e h
  have hAb := C.2.2.2.2.2.2.2.2.1
  have hg := C.2.2.2.2.2.2.2.2.2.2.2.1
  have hE := (hg.1 z.toNat (by omega)).narrow (B := A) hAb
  exact vk_getf (ref := "java/lang/String") C.1 C.2.1 (hE.1 0 (by decide)).2.2.1 hS C.2.2.2.1 (C.2.2.1 _ hlink) (fun _ h9 => h9) d (kk h H locs ls hP hD hS hl)
theorem xx_strc (C : cx_ G X cc own rm ret nl) (p1 : Nat) (hp : pc + 3 = p1) {z : Int} {x : Option α} {index : Nat} (hlink : Cond.fieldLink own index "java/lang/String" "coder" "B" ∈ gT_) (d : decode cc pc = .ok (.getfield index, 3)) (h : gd_ (0 ≤ z ∧ z < 21) x = some r) (kk : x = some r → wx_ G X N ad ce μ k n p1 lv (.int (iI 0) :: st)) : wx_ G X N ad ce μ k n pc lv (.ref (G.2.1 (200 + (z : Int).toNat)) :: st) := by
  obtain ⟨p, l, e, R, s, m, args, below, meth, c, Q, A, nL⟩ := X
  intro H locs ls hP hD hS hl
  subst hp
  obtain ⟨⟨hz0, hz1⟩, h⟩ := ck_e h
  have hAb := C.2.2.2.2.2.2.2.2.1
  have hg := C.2.2.2.2.2.2.2.2.2.2.2.1
  have hE := (hg.1 z.toNat (by omega)).narrow (B := A) hAb
  exact vk_getf (ref := "java/lang/String") C.1 C.2.1 (hE.1 0 (by decide)).2.1 hS C.2.2.2.1 (C.2.2.1 _ hlink) (fun _ h9 => h9) d (kk h H locs ls hP hD hS hl)
theorem xx_svlen (C : cx_ G X cc own rm ret nl) (p1 : Nat) (hp : pc + 1 = p1) {z : Int} {x : Option α} (d : decode cc pc = .ok (.arraylength, 1)) (h : gd_ (0 ≤ z ∧ z < 21) x = some r) (kk : x = some r → wx_ G X N ad ce μ k n p1 lv (.int (iI (sn_ z)) :: st)) : wx_ G X N ad ce μ k n pc lv (.ref (G.2.1 (300 + (z : Int).toNat)) :: st) := by
  obtain ⟨p, l, e, R, s, m, args, below, meth, c, Q, A, nL⟩ := X
  intro H locs ls hP hD hS hl
  subst hp
  obtain ⟨⟨hz0, hz1⟩, h⟩ := ck_e h
  have hAb := C.2.2.2.2.2.2.2.2.1
  have hg := C.2.2.2.2.2.2.2.2.2.2.2.1
  have hE := (hg.1 z.toNat (by omega)).narrow (B := A) hAb
  exact va_tlen C.1 C.2.1 (hE.1 0 (by decide)).2.2.2 hS (iI_nat _) d (kk h H locs ls hP hD hS hl)
theorem xx_svld (C : cx_ G X cc own rm ret nl) (p1 : Nat) (hp : pc + 1 = p1) {z i : Int} {f : Int → Option α} (d : decode cc pc = .ok (.baload, 1)) (h : rs_ z i f = some r) (kk : ∀ v, f v = some r → wx_ G X N ad ce μ k n p1 lv (.int (iI v) :: st)) : wx_ G X N ad ce μ k n pc lv (.int (iI i) :: .ref (G.2.1 (300 + (z : Int).toNat)) :: st) := by
  obtain ⟨p, l, e, R, s, m, args, below, meth, c, Q, A, nL⟩ := X
  intro H locs ls hP hD hS hl
  subst hp
  obtain ⟨⟨⟨hz0, hz1⟩, hi0, hi1⟩, h⟩ := ck_e h
  have hAb := C.2.2.2.2.2.2.2.2.1
  have hg := C.2.2.2.2.2.2.2.2.2.2.2.1
  have hE := (hg.1 z.toNat (by omega)).narrow (B := A) hAb
  have hlen : (skl_.getD z.toNat []).length < 100 := skl_len _ (by omega)
  have hi2 : i < ((skl_.getD z.toNat []).length : Nat) := hi1
  have hc : (iI i).toNatClampNeg = i.toNat := iI_clamp (by omega)
  refine va_tb C.1 C.2.1 (hE.1 0 (by decide)).2.2.2 hS (iI_in hi0 hi2 (by show (skl_.getD z.toNat []).length < 2147483648; omega)) (v := .int (iI (sc_ z i))) ?_ d (kk _ h H locs ls hP hD hS hl)
  show Value.int (((skl_.getD z.toNat []).map iI).getD (iI i).toNatClampNeg 0) = _
  rw [hc]
  unfold sc_
  generalize skl_.getD z.toNat [] = L9 at hi2 ⊢
  have h9 : i.toNat < L9.length := by omega
  rw [List.getD_eq_getElem?_getD, List.getElem?_map, List.getD_eq_getElem?_getD, List.getElem?_eq_getElem h9]
  rfl
theorem xx_gcs (C : cx_ G X cc own rm ret nl) (p1 : Nat) (hp : pc + 3 = p1) {index : Nat} (hlink : Cond.fieldLink own index "java/lang/String" "COMPACT_STRINGS" "Z" ∈ gT_) (d : decode cc pc = .ok (.getstatic index, 3)) (h : wx_ G X N ad ce μ k n p1 lv (.int (iI 1) :: st)) : wx_ G X N ad ce μ k n pc lv st := by
  obtain ⟨p, l, e, R, s, m, args, below, meth, c, Q, A, nL⟩ := X
  intro H locs ls hP hD hS hl
  subst hp
  have hAb := C.2.2.2.2.2.2.2.2.1
  have hg := C.2.2.2.2.2.2.2.2.2.2.2.1
  exact va_gets (ref := "java/lang/String") C.1 C.2.1 (va_Z.narrow (hg.2.2.1.1) hAb) hS C.2.2.2.1 (C.2.2.1 _ hlink) (fun _ h9 => h9) d (h H locs ls hP hD hS hl)
theorem xx_gsf (C : cx_ G X cc own rm ret nl) (p1 : Nat) (hp : pc + 3 = p1) {index : Nat} (hlink : Cond.fieldLink own index "jdk/internal/util/Preconditions" "SIOOBE_FORMATTER" "Ljava/util/function/BiFunction;" ∈ gT_) (d : decode cc pc = .ok (.getstatic index, 3)) (h : wx_ G X N ad ce μ k n p1 lv (.ref (G.2.1 5) :: st)) : wx_ G X N ad ce μ k n pc lv st := by
  obtain ⟨p, l, e, R, s, m, args, below, meth, c, Q, A, nL⟩ := X
  intro H locs ls hP hD hS hl
  subst hp
  have hAb := C.2.2.2.2.2.2.2.2.1
  have hg := C.2.2.2.2.2.2.2.2.2.2.2.1
  exact va_gets (ref := "jdk/internal/util/Preconditions") C.1 C.2.1 (va_Z.narrow (hg.2.2.1.2.1) hAb) hS C.2.2.2.1 (C.2.2.1 _ hlink) (fun _ h9 => h9) d (h H locs ls hP hD hS hl)
theorem xx_gsm (C : cx_ G X cc own rm ret nl) (p1 : Nat) (hp : pc + 3 = p1) {index : Nat} (hlink : Cond.fieldLink own index "UrnHeap$1" "$SwitchMap$UrnHeap$Kind" "[I" ∈ gT_) (d : decode cc pc = .ok (.getstatic index, 3)) (h : wx_ G X N ad ce μ k n p1 lv (.ref (G.2.1 1) :: st)) : wx_ G X N ad ce μ k n pc lv st := by
  obtain ⟨p, l, e, R, s, m, args, below, meth, c, Q, A, nL⟩ := X
  intro H locs ls hP hD hS hl
  subst hp
  have hAb := C.2.2.2.2.2.2.2.2.1
  have hg := C.2.2.2.2.2.2.2.2.2.2.2.1
  exact va_gets (ref := "UrnHeap$1") C.1 C.2.1 (va_Z.narrow (hg.2.2.1.2.2.2.1) hAb) hS C.2.2.2.1 (C.2.2.1 _ hlink) (fun _ h9 => h9) d (h H locs ls hP hD hS hl)
theorem xx_gd1 (C : cx_ G X cc own rm ret nl) (p1 : Nat) (hp : pc + 3 = p1) {index : Nat} (hlink : Cond.fieldLink own index "java/lang/Integer" "DigitOnes" "[B" ∈ gT_) (d : decode cc pc = .ok (.getstatic index, 3)) (h : wx_ G X N ad ce μ k n p1 lv (.ref (G.2.1 3) :: st)) : wx_ G X N ad ce μ k n pc lv st := by
  obtain ⟨p, l, e, R, s, m, args, below, meth, c, Q, A, nL⟩ := X
  intro H locs ls hP hD hS hl
  subst hp
  have hAb := C.2.2.2.2.2.2.2.2.1
  have hg := C.2.2.2.2.2.2.2.2.2.2.2.1
  exact va_gets (ref := "java/lang/Integer") C.1 C.2.1 (va_Z.narrow (hg.2.2.1.2.2.2.2.1) hAb) hS C.2.2.2.1 (C.2.2.1 _ hlink) (fun _ h9 => h9) d (h H locs ls hP hD hS hl)
theorem xx_gd0 (C : cx_ G X cc own rm ret nl) (p1 : Nat) (hp : pc + 3 = p1) {index : Nat} (hlink : Cond.fieldLink own index "java/lang/Integer" "DigitTens" "[B" ∈ gT_) (d : decode cc pc = .ok (.getstatic index, 3)) (h : wx_ G X N ad ce μ k n p1 lv (.ref (G.2.1 4) :: st)) : wx_ G X N ad ce μ k n pc lv st := by
  obtain ⟨p, l, e, R, s, m, args, below, meth, c, Q, A, nL⟩ := X
  intro H locs ls hP hD hS hl
  subst hp
  have hAb := C.2.2.2.2.2.2.2.2.1
  have hg := C.2.2.2.2.2.2.2.2.2.2.2.1
  exact va_gets (ref := "java/lang/Integer") C.1 C.2.1 (va_Z.narrow (hg.2.2.1.2.2.2.2.2) hAb) hS C.2.2.2.1 (C.2.2.1 _ hlink) (fun _ h9 => h9) d (h H locs ls hP hD hS hl)
theorem xx_gall (C : cx_ G X cc own rm ret nl) (p1 : Nat) (hp : pc + 3 = p1) (ho : own = "UrnHeap$Orders") (d : decode cc pc = .ok (.getstatic 60, 3)) (h : wx_ G X N ad ce μ k n p1 lv (.ref (G.2.1 2) :: st)) : wx_ G X N ad ce μ k n pc lv st := by
  obtain ⟨p, l, e, R, s, m, args, below, meth, c, Q, A, nL⟩ := X
  intro H locs ls hP hD hS hl
  subst hp
  have hAb := C.2.2.2.2.2.2.2.2.1
  have hg := C.2.2.2.2.2.2.2.2.2.2.2.1
  subst ho
  exact va_getsN (ref := "UrnHeap$Kind") (host := "UrnHeap") C.1 C.2.1 (va_Z.narrow hg.2.2.1.2.2.1 hAb) hS C.2.2.2.1 (va_Nw.use rfl hg.2.2.2.2.2.1) (fun _ h9 => h9) d (h H locs ls hP hD hS hl)
theorem xx_alllen (C : cx_ G X cc own rm ret nl) (p1 : Nat) (hp : pc + 1 = p1) (d : decode cc pc = .ok (.arraylength, 1)) (h : wx_ G X N ad ce μ k n p1 lv (.int (iI 10) :: st)) : wx_ G X N ad ce μ k n pc lv (.ref (G.2.1 2) :: st) := by
  obtain ⟨p, l, e, R, s, m, args, below, meth, c, Q, A, nL⟩ := X
  intro H locs ls hP hD hS hl
  subst hp
  have hAb := C.2.2.2.2.2.2.2.2.1
  have hg := C.2.2.2.2.2.2.2.2.2.2.2.1
  exact va_tlen C.1 C.2.1 (va_T.narrow hg.2.2.2.1.1 hAb) hS (iI_nat _) d (h H locs ls hP hD hS hl)
theorem xx_alda (C : cx_ G X cc own rm ret nl) (p1 : Nat) (hp : pc + 1 = p1) {i : Int} {x : Option α} (d : decode cc pc = .ok (.aaload, 1)) (h : gd_ (0 ≤ i ∧ i < 10) x = some r) (kk : x = some r → wx_ G X N ad ce μ k n p1 lv (.ref (G.2.1 (100 + (i : Int).toNat)) :: st)) : wx_ G X N ad ce μ k n pc lv (.int (iI i) :: .ref (G.2.1 2) :: st) := by
  obtain ⟨p, l, e, R, s, m, args, below, meth, c, Q, A, nL⟩ := X
  intro H locs ls hP hD hS hl
  subst hp
  obtain ⟨⟨h0, h1⟩, h⟩ := ck_e h
  have hAb := C.2.2.2.2.2.2.2.2.1
  have hg := C.2.2.2.2.2.2.2.2.2.2.2.1
  exact vb_tq C.1 C.2.1 (va_T.narrow hg.2.2.2.1.1 hAb) hS (iI_in h0 h1 (by decide)) (by rw [iI_clamp (by omega)]) d (kk h H locs ls hP hD hS hl)
theorem xx_smld (C : cx_ G X cc own rm ret nl) (p1 : Nat) (hp : pc + 1 = p1) {i : Int} {x : Option α} (d : decode cc pc = .ok (.iaload, 1)) (h : gd_ (0 ≤ i ∧ i < 10) x = some r) (kk : x = some r → wx_ G X N ad ce μ k n p1 lv (.int (iI (i + 1)) :: st)) : wx_ G X N ad ce μ k n pc lv (.int (iI i) :: .ref (G.2.1 1) :: st) := by
  obtain ⟨p, l, e, R, s, m, args, below, meth, c, Q, A, nL⟩ := X
  intro H locs ls hP hD hS hl
  subst hp
  obtain ⟨⟨h0, h1⟩, h⟩ := ck_e h
  have hAb := C.2.2.2.2.2.2.2.2.1
  have hg := C.2.2.2.2.2.2.2.2.2.2.2.1
  refine va_ti C.1 C.2.1 (va_T.narrow hg.2.2.2.1.2.1 hAb) hS (iI_in h0 h1 (by decide)) (v := .int (iI (i + 1))) (by rw [iI_clamp (by omega)]; congr 2; omega) d (kk h H locs ls hP hD hS hl)
theorem xx_d1ld (C : cx_ G X cc own rm ret nl) (p1 : Nat) (hp : pc + 1 = p1) {i : Int} {x : Option α} (d : decode cc pc = .ok (.baload, 1)) (h : gd_ (0 ≤ i ∧ i < 100) x = some r) (kk : x = some r → wx_ G X N ad ce μ k n p1 lv (.int (iI (48 + i % 10)) :: st)) : wx_ G X N ad ce μ k n pc lv (.int (iI i) :: .ref (G.2.1 3) :: st) := by
  obtain ⟨p, l, e, R, s, m, args, below, meth, c, Q, A, nL⟩ := X
  intro H locs ls hP hD hS hl
  subst hp
  obtain ⟨⟨h0, h1⟩, h⟩ := ck_e h
  have hAb := C.2.2.2.2.2.2.2.2.1
  have hg := C.2.2.2.2.2.2.2.2.2.2.2.1
  refine va_tb C.1 C.2.1 (va_T.narrow hg.2.2.2.1.2.2.1 hAb) hS (iI_in h0 h1 (by decide)) (v := .int (iI (48 + i % 10))) (by rw [iI_clamp (by omega)]; congr 2; omega) d (kk h H locs ls hP hD hS hl)
theorem xx_d0ld (C : cx_ G X cc own rm ret nl) (p1 : Nat) (hp : pc + 1 = p1) {i : Int} {x : Option α} (d : decode cc pc = .ok (.baload, 1)) (h : gd_ (0 ≤ i ∧ i < 100) x = some r) (kk : x = some r → wx_ G X N ad ce μ k n p1 lv (.int (iI (48 + i / 10)) :: st)) : wx_ G X N ad ce μ k n pc lv (.int (iI i) :: .ref (G.2.1 4) :: st) := by
  obtain ⟨p, l, e, R, s, m, args, below, meth, c, Q, A, nL⟩ := X
  intro H locs ls hP hD hS hl
  subst hp
  obtain ⟨⟨h0, h1⟩, h⟩ := ck_e h
  have hAb := C.2.2.2.2.2.2.2.2.1
  have hg := C.2.2.2.2.2.2.2.2.2.2.2.1
  refine va_tb C.1 C.2.1 (va_T.narrow hg.2.2.2.1.2.2.2 hAb) hS (iI_in h0 h1 (by decide)) (v := .int (iI (48 + i / 10))) (by rw [iI_clamp (by omega)]; congr 2; omega) d (kk h H locs ls hP hD hS hl)
theorem xx_form (C : cx_ G X cc own rm ret nl) (p1 : Nat) (hp : pc + 3 = p1) {z : Int} {x : Option α} {index : Nat} (hlink : Cond.fieldLink own index "UrnHeap$Kind" "form" "Ljava/lang/String;" ∈ gT_) (d : decode cc pc = .ok (.getfield index, 3)) (h : gd_ (0 ≤ z ∧ z < 10) x = some r) (kk : x = some r → wx_ G X N ad ce μ k n p1 lv (.ref (G.2.1 (200 + (z : Int).toNat)) :: st)) : wx_ G X N ad ce μ k n pc lv (.ref (G.2.1 (100 + (z : Int).toNat)) :: st) := by
  obtain ⟨p, l, e, R, s, m, args, below, meth, c, Q, A, nL⟩ := X
  intro H locs ls hP hD hS hl
  subst hp
  obtain ⟨⟨hz0, hz1⟩, h⟩ := ck_e h
  have hAb := C.2.2.2.2.2.2.2.2.1
  have hg := C.2.2.2.2.2.2.2.2.2.2.2.1
  have hE := hg.2.1 z.toNat (by omega)
  exact vk_getf (ref := "UrnHeap$Kind") C.1 C.2.1 (va_OF.narrow hE.2.2 hAb) hS C.2.2.2.1 (C.2.2.1 _ hlink) (fun _ h9 => h9) d (kk h H locs ls hP hD hS hl)
theorem xx_ord (C : cx_ G X cc own rm ret nl) (p1 : Nat) (hp : pc + 3 = p1) {z : Int} {x : Option α} {index : Nat} (hlink : Cond.fieldLink own index "java/lang/Enum" "ordinal" "I" ∈ gT_) (d : decode cc pc = .ok (.getfield index, 3)) (h : gd_ (0 ≤ z ∧ z < 10) x = some r) (kk : x = some r → wx_ G X N ad ce μ k n p1 lv (.int (iI z) :: st)) : wx_ G X N ad ce μ k n pc lv (.ref (G.2.1 (100 + (z : Int).toNat)) :: st) := by
  obtain ⟨p, l, e, R, s, m, args, below, meth, c, Q, A, nL⟩ := X
  intro H locs ls hP hD hS hl
  subst hp
  obtain ⟨⟨hz0, hz1⟩, h⟩ := ck_e h
  have hAb := C.2.2.2.2.2.2.2.2.1
  have hg := C.2.2.2.2.2.2.2.2.2.2.2.1
  have hE := hg.2.1 z.toNat (by omega)
  have hzz : ((z.toNat : Nat) : Int) = z := by omega
  have hE1 := hE.2.1
  rw [hzz] at hE1
  exact vk_getf (ref := "java/lang/Enum") C.1 C.2.1 (va_OF.narrow hE1 hAb) hS C.2.2.2.1 (C.2.2.1 _ hlink) (fun _ h9 => h9) d (kk h H locs ls hP hD hS hl)
theorem xx_ldcs (C : cx_ G X cc own rm ret nl) (p1 : Nat) (hp : pc + 2 = p1) (i : Nat) {tx : String} {index : Nat} (ho : own = "UrnHeapModel") (hw : swl_[i]? = some (index, tx)) (d : decode cc pc = .ok (.ldc index, 2)) (h : wx_ G X N ad ce μ k n p1 lv (.ref (G.2.1 (210 + i)) :: st)) : wx_ G X N ad ce μ k n pc lv st := by
  obtain ⟨p, l, e, R, s, m, args, below, meth, c, Q, A, nL⟩ := X
  intro H locs ls hP hD hS hl
  subst hp
  have hAb := C.2.2.2.2.2.2.2.2.1
  have hg := C.2.2.2.2.2.2.2.2.2.2.2.1
  subst ho
  exact va_ldcS C.1 C.2.1 C.2.2.2.1 (hg.2.2.2.2.2.2 i _ hw) d (h H locs ls hP hD hS hl)
theorem xx_ldci (C : cx_ G X cc own rm ret nl) (p1 : Nat) (hp : pc + 2 = p1) {v : Int} {index : Nat} (hw : Cond.constant own index (iI v) ∈ gT_) (d : decode cc pc = .ok (.ldc index, 2)) (h : wx_ G X N ad ce μ k n p1 lv (.int (iI v) :: st)) : wx_ G X N ad ce μ k n pc lv st := by
  obtain ⟨p, l, e, R, s, m, args, below, meth, c, Q, A, nL⟩ := X
  intro H locs ls hP hD hS hl
  subst hp
  exact lv_ldc C.1 C.2.1 C.2.2.2.1 (C.2.2.1 _ hw) d (h H locs ls hP hD hS hl)
theorem xx_ldcwi (C : cx_ G X cc own rm ret nl) (p1 : Nat) (hp : pc + 3 = p1) {v : Int} {index : Nat} (hw : Cond.constant own index (iI v) ∈ gT_) (d : decode cc pc = .ok (.ldc_w index, 3)) (h : wx_ G X N ad ce μ k n p1 lv (.int (iI v) :: st)) : wx_ G X N ad ce μ k n pc lv st := by
  obtain ⟨p, l, e, R, s, m, args, below, meth, c, Q, A, nL⟩ := X
  intro H locs ls hP hD hS hl
  subst hp
  exact lv_ldcw C.1 C.2.1 C.2.2.2.1 (C.2.2.1 _ hw) d (h H locs ls hP hD hS hl)
theorem xx_blen (C : cx_ G X cc own rm ret nl) (p1 : Nat) (hp : pc + 1 = p1) {q : Nat} {f : Int → Option α} (hq : q < N) (he : ∀ row, ce q row = .inl (G.1.1 101, (row (-1)).toNat, .inl (fun j => iI (row (j : Nat))))) (d : decode cc pc = .ok (.arraylength, 1)) (h : nm_ (bl_ μ q) f = some r) (kk : ∀ v, f v = some r → wx_ G X N ad ce μ k n p1 lv (.int (iI v) :: st)) : wx_ G X N ad ce μ k n pc lv (.ref (ad q) :: st) := by
  obtain ⟨p, l, e, R, s, m, args, below, meth, c, Q, A, nL⟩ := X
  intro H locs ls hP hD hS hl
  subst hp
  exact va_alen C.1 C.2.1 C.2.2.2.2.1 hP q 1 ((wl_get hq).trans (by rw [he])) rfl (iI_nat (μ q (-1)).toNat) d (kk _ h H locs ls hP hD hS hl)
theorem xx_baload (C : cx_ G X cc own rm ret nl) (p1 : Nat) (hp : pc + 1 = p1) {q : Nat} {i : Int} {f : Int → Option α} (hq : q < N) (he : ∀ row, ce q row = .inl (G.1.1 101, (row (-1)).toNat, .inl (fun j => iI (row (j : Nat))))) (d : decode cc pc = .ok (.baload, 1)) (h : rb_ μ q i f = some r) (kk : ∀ v, f v = some r → wx_ G X N ad ce μ k n p1 lv (.int (iI v) :: st)) : wx_ G X N ad ce μ k n pc lv (.int (iI i) :: .ref (ad q) :: st) := by
  obtain ⟨p, l, e, R, s, m, args, below, meth, c, Q, A, nL⟩ := X
  intro H locs ls hP hD hS hl
  subst hp
  obtain ⟨⟨⟨h0, h1⟩, h2⟩, h⟩ := ck_e h
  unfold bl_ at h1 h2
  refine va_bald C.1 C.2.1 C.2.2.2.2.1 hP q 1 ((wl_get hq).trans (by rw [he])) rfl (iI_in h0 h1 (by omega)) d ?_
  have e1 : (((iI i).toNatClampNeg : Nat) : Int) = i := by rw [iI_clamp (by omega)]; omega
  show W _ _ _ _ _ _ _ _ _ _ _ _ _ _ _ (F0 m (pc + 1) ls (.int (iI (μ q (((iI i).toNatClampNeg : Nat) : Int))) :: st))
  rw [e1]
  exact kk _ h H locs ls hP hD hS hl
theorem xx_bastore (C : cx_ G X cc own rm ret nl) (p1 : Nat) (hp : pc + 1 = p1) {q : Nat} {i v : Int} {f : mu_T → Option α} (hq : q < N) (he : ∀ row, ce q row = .inl (G.1.1 101, (row (-1)).toNat, .inl (fun j => iI (row (j : Nat))))) (d : decode cc pc = .ok (.bastore, 1)) (h : wb_ μ q i v f = some r) (kk : ∀ μ1, f μ1 = some r → wx_ G X N ad ce μ1 k n p1 lv st) : wx_ G X N ad ce μ k n pc lv (.int (iI v) :: .int (iI i) :: .ref (ad q) :: st) := by
  obtain ⟨p, l, e, R, s, m, args, below, meth, c, Q, A, nL⟩ := X
  intro H locs ls hP hD hS hl
  subst hp
  obtain ⟨⟨⟨h0, h1⟩, h2⟩, h⟩ := ck_e h
  have hb1 : i < ((μ q (-1)).toNat : Int) := h1
  have hb2 : ((μ q (-1)).toNat : Int) < 2147483648 := h2
  refine va_bast C.1 C.2.1 C.2.2.2.2.1 hP hD hS q 1 ((wl_get hq).trans (by rw [he])) rfl (iI_in h0 hb1 (by omega)) d (fun H1 locs1 hP1 hD1 hS1 => ?_)
  have e1 : (upd (fun j : Nat => iI (μ q (j : Int))) (iI i).toNatClampNeg (vp_nar .byte (iI v))) = fun j : Nat => iI (ur_ (μ q) i (i2b_ v) (j : Int)) := by
    funext j
    rw [iI_clamp (by omega), vp_nar_byte]
    unfold upd ur_
    by_cases hj : j = i.toNat
    · rw [if_pos hj, if_pos (by omega)]
      unfold i2b_
      exact (iI_of _).symm
    · rw [if_neg hj, if_neg (by omega)]
  have e2 : ur_ (μ q) i (i2b_ v) (-1) = μ q (-1) := if_neg (by omega)
  have e3 : ce q (ur_ (μ q) i (i2b_ v)) = .inl (G.1.1 101, (μ q (-1)).toNat, .inl (upd (fun j : Nat => iI (μ q (j : Int))) (iI i).toNatClampNeg (vp_nar .byte (iI v)))) := by rw [he, e1, e2]
  rw [← e3, wl_set] at hP1 hD1
  exact kk _ h H1 locs1 ls hP1 hD1 hS1 hl
theorem xx_ifnonnull (C : cx_ G X cc own rm ret nl) {x : Nat} {off : Int} (tgt : Nat) (d : decode cc pc = .ok (.ifnonnull off, 3)) (ht : (pc : Int) + off = (tgt : Int)) (h : wx_ G X N ad ce μ k n tgt lv st) : wx_ G X N ad ce μ k n pc lv (.ref x :: st) := by
  obtain ⟨p, l, e, R, s, m, args, below, meth, c, Q, A, nL⟩ := X
  intro H locs ls hP hD hS hl
  exact lv_ifnonnull C.1 C.2.1 d ht (h H locs ls hP hD hS hl)
theorem xx_ifnull (C : cx_ G X cc own rm ret nl) (p1 : Nat) (hp : pc + 3 = p1) {x : Nat} {off : Int} (d : decode cc pc = .ok (.ifnull off, 3)) (h : wx_ G X N ad ce μ k n p1 lv st) : wx_ G X N ad ce μ k n pc lv (.ref x :: st) := by
  obtain ⟨p, l, e, R, s, m, args, below, meth, c, Q, A, nL⟩ := X
  intro H locs ls hP hD hS hl
  subst hp
  exact lv_ifnull C.1 C.2.1 d (h H locs ls hP hD hS hl)
theorem xx_ifnullN (C : cx_ G X cc own rm ret nl) {off : Int} (tgt : Nat) (d : decode cc pc = .ok (.ifnull off, 3)) (ht : (pc : Int) + off = (tgt : Int)) (h : wx_ G X N ad ce μ k n tgt lv st) : wx_ G X N ad ce μ k n pc lv (.null :: st) := by
  obtain ⟨p, l, e, R, s, m, args, below, meth, c, Q, A, nL⟩ := X
  intro H locs ls hP hD hS hl
  exact lv_ifnullN C.1 C.2.1 d ht (h H locs ls hP hD hS hl)
theorem xx_ifnullK (C : cx_ G X cc own rm ret nl) (p1 : Nat) (hp : pc + 3 = p1) {z : Int} {off : Int} {t f : Option α} {tgt : Nat} (d : decode cc pc = .ok (.ifnull off, 3)) (ht : (pc : Int) + off = (tgt : Int)) (h : (if z < 0 then t else f) = some r) (k1 : t = some r → wx_ G X N ad ce μ k n tgt lv st) (k2 : f = some r → wx_ G X N ad ce μ k n p1 lv st) : wx_ G X N ad ce μ k n pc lv (va_rf (kv_ G z) :: st) := by
  obtain ⟨p, l, e, R, s, m, args, below, meth, c, Q, A, nL⟩ := X
  intro H locs ls hP hD hS hl
  subst hp
  unfold kv_
  split at h
  next hc => rw [if_pos hc]; exact lv_ifnullN C.1 C.2.1 d ht (k1 h H locs ls hP hD hS hl)
  next hc => rw [if_neg hc]; exact lv_ifnull C.1 C.2.1 d (k2 h H locs ls hP hD hS hl)
theorem xx_knn {z : Int} {x : Option α} (h : gd_ (0 ≤ z ∧ z < 10) x = some r) (kk : x = some r → wx_ G X N ad ce μ k n pc lv (.ref (G.2.1 (100 + (z : Int).toNat)) :: st)) : wx_ G X N ad ce μ k n pc lv (va_rf (kv_ G z) :: st) := by
  obtain ⟨hz, h⟩ := ck_e h
  have e : va_rf (kv_ G z) = .ref (G.2.1 (100 + (z : Int).toNat)) := by unfold kv_; rw [if_neg (by omega)]; rfl
  rw [e]
  exact kk h
theorem xx_aldk (C : cx_ G X cc own rm ret nl) (p1 : Nat) (hp : pc + 1 = p1) {q nA : Nat} {i : Int} {f : Int → Option α} (hq : q < N) (he : ∀ row, ce q row = .inl (G.1.1 103, nA, .inr (.inr (.inr (.inr (fun j => kv_ G (row (j : Nat)))))))) (hn : nA < 2147483648) (d : decode cc pc = .ok (.aaload, 1)) (h : rd_ μ q nA i f = some r) (kk : ∀ v, f v = some r → wx_ G X N ad ce μ k n p1 lv (va_rf (kv_ G v) :: st)) : wx_ G X N ad ce μ k n pc lv (.int (iI i) :: .ref (ad q) :: st) := by
  obtain ⟨p, l, e, R, s, m, args, below, meth, c, Q, A, nL⟩ := X
  intro H locs ls hP hD hS hl
  subst hp
  obtain ⟨⟨h0, h1⟩, h⟩ := ck_e h
  refine va_aldq C.1 C.2.1 C.2.2.2.2.1 hP q 3 ((wl_get hq).trans (by rw [he])) rfl (iI_in h0 h1 hn) d ?_
  have e1 : (((iI i).toNatClampNeg : Nat) : Int) = i := by rw [iI_clamp (by omega)]; omega
  show W _ _ _ _ _ _ _ _ _ _ _ _ _ _ _ (F0 m (pc + 1) ls (va_rf (kv_ G (μ q (((iI i).toNatClampNeg : Nat) : Int))) :: st))
  rw [e1]
  exact kk _ h H locs ls hP hD hS hl
theorem xx_astk (C : cx_ G X cc own rm ret nl) (p1 : Nat) (hp : pc + 1 = p1) {q nA : Nat} {i z : Int} {f : mu_T → Option α} (hq : q < N) (he : ∀ row, ce q row = .inl (G.1.1 103, nA, .inr (.inr (.inr (.inr (fun j => kv_ G (row (j : Nat)))))))) (hn : nA < 2147483648) (d : decode cc pc = .ok (.aastore, 1)) (h : gd_ (0 ≤ z ∧ z < 10) (wr_ μ q nA i z f) = some r) (kk : ∀ μ1, f μ1 = some r → wx_ G X N ad ce μ1 k n p1 lv st) : wx_ G X N ad ce μ k n pc lv (.ref (G.2.1 (100 + (z : Int).toNat)) :: .int (iI i) :: .ref (ad q) :: st) := by
  obtain ⟨p, l, e, R, s, m, args, below, meth, c, Q, A, nL⟩ := X
  intro H locs ls hP hD hS hl
  subst hp
  obtain ⟨⟨hz0, hz1⟩, h⟩ := ck_e h
  obtain ⟨⟨h0, h1⟩, h⟩ := ck_e h
  have hAb := C.2.2.2.2.2.2.2.2.1
  have hg := C.2.2.2.2.2.2.2.2.2.2.2.1
  have hany : va_Any "UrnHeap$Kind" s H (G.2.1 (100 + z.toNat)) := by
    obtain ⟨cell, g1, g2, g3, g4⟩ := (hg.2.1 z.toNat (by omega)).1
    have g5 : H[G.2.1 (100 + z.toNat)]? = some cell := by
      rw [hS.2.1 _ (Array.getElem?_eq_some_iff.mp g1).1 (fun q => g4 (hAb _ q))]
      exact g1
    obtain ⟨kC, hkC, hnm⟩ := Vm.findClass_spec g3
    refine ⟨cell, g5, g2, ⟨kC, hkC⟩, fun comp hcomp => ?_⟩
    have e9 : comp = cell.cls := Option.some.inj (hcomp.symm.trans g3)
    subst e9
    exact va_asg _ _
  refine va_astqM (E := "UrnHeap$Kind") C.1 C.2.1 C.2.2.2.2.1 hP hD hS q 3 ((wl_get hq).trans (by rw [he])) rfl hany (iI_in h0 h1 hn) d (fun H1 locs1 hP1 hD1 hS1 => ?_)
  have e1 : (va_up (fun j : Nat => kv_ G (μ q (j : Int))) (iI i).toNatClampNeg (some (G.2.1 (100 + z.toNat)))) = fun j : Nat => kv_ G (ur_ (μ q) i z (j : Int)) := by
    funext j
    rw [iI_clamp (by omega)]
    unfold va_up ur_
    by_cases hj : j = i.toNat
    · rw [if_pos hj, if_pos (by omega)]
      unfold kv_
      rw [if_neg (by omega)]
    · rw [if_neg hj, if_neg (by omega)]
  rw [e1, ← he, wl_set] at hP1 hD1
  exact kk _ h H1 locs1 ls hP1 hD1 hS1 hl
theorem xx_aldp (C : cx_ G X cc own rm ret nl) (p1 : Nat) (hp : pc + 1 = p1) {q nA : Nat} {i : Int} {x : Option α} (hq : q < N) (he : ∀ row, ce q row = .inl (G.1.1 102, nA, .inr (.inr (.inr (.inr (fun j => some (ad (12 * (j + 1))))))))) (hn : nA < 2147483648) (d : decode cc pc = .ok (.aaload, 1)) (h : gd_ (0 ≤ i ∧ i < (nA : Int)) x = some r) (kk : (0 ≤ i ∧ i < (nA : Int)) → x = some r → wx_ G X N ad ce μ k n p1 lv (.ref (ad (12 * (i.toNat + 1) + 0)) :: st)) : wx_ G X N ad ce μ k n pc lv (.int (iI i) :: .ref (ad q) :: st) := by
  obtain ⟨p, l, e, R, s, m, args, below, meth, c, Q, A, nL⟩ := X
  intro H locs ls hP hD hS hl
  subst hp
  obtain ⟨⟨h0, h1⟩, h⟩ := ck_e h
  refine va_aldq C.1 C.2.1 C.2.2.2.2.1 hP q 2 ((wl_get hq).trans (by rw [he])) rfl (iI_in h0 h1 hn) d ?_
  show W _ _ _ _ _ _ _ _ _ _ _ _ _ _ _ (F0 m (pc + 1) ls (.ref (ad (12 * ((iI i).toNatClampNeg + 1))) :: st))
  rw [iI_clamp (by omega)]
  exact kk ⟨h0, h1⟩ h H locs ls hP hD hS hl
theorem xx_plen (C : cx_ G X cc own rm ret nl) (p1 : Nat) (hp : pc + 1 = p1) {q nA : Nat} {f9 : Nat → Option Nat} (hq : q < N) (he : ∀ row, ce q row = .inl (G.1.1 102, nA, .inr (.inr (.inr (.inr f9))))) (d : decode cc pc = .ok (.arraylength, 1)) (h : wx_ G X N ad ce μ k n p1 lv (.int (iI nA) :: st)) : wx_ G X N ad ce μ k n pc lv (.ref (ad q) :: st) := by
  obtain ⟨p, l, e, R, s, m, args, below, meth, c, Q, A, nL⟩ := X
  intro H locs ls hP hD hS hl
  subst hp
  exact va_alen C.1 C.2.1 C.2.2.2.2.1 hP q 2 ((wl_get hq).trans (by rw [he])) rfl (iI_nat nA) d (h H locs ls hP hD hS hl)
theorem xx_klen (C : cx_ G X cc own rm ret nl) (p1 : Nat) (hp : pc + 1 = p1) {q nA : Nat} (hq : q < N) (he : ∀ row, ce q row = .inl (G.1.1 103, nA, .inr (.inr (.inr (.inr (fun j => kv_ G (row (j : Nat)))))))) (d : decode cc pc = .ok (.arraylength, 1)) (h : wx_ G X N ad ce μ k n p1 lv (.int (iI nA) :: st)) : wx_ G X N ad ce μ k n pc lv (.ref (ad q) :: st) := by
  obtain ⟨p, l, e, R, s, m, args, below, meth, c, Q, A, nL⟩ := X
  intro H locs ls hP hD hS hl
  subst hp
  exact va_alen C.1 C.2.1 C.2.2.2.2.1 hP q 3 ((wl_get hq).trans (by rw [he])) rfl (iI_nat nA) d (h H locs ls hP hD hS hl)
theorem xx_acopy (C : cx_ G X cc own rm ret nl) (p1 : Nat) (hp : pc + 3 = p1) {q1 q2 n1 n2 index : Nat} {a1 a2 len : Int} {f : mu_T → Option α} (hq1 : q1 < N) (he1 : ∀ row, ce q1 row = .inl (G.1.1 100, n1, .inl (fun j => iI (row (j : Nat))))) (hq2 : q2 < N) (he2 : ∀ row, ce q2 row = .inl (G.1.1 100, n2, .inl (fun j => iI (row (j : Nat))))) (hn : n1 < 2147483648 ∧ n2 < 2147483648) (hw : Cond.methodLink own index arraycopyName ∈ gT_ ∧ Cond.native arraycopyName ∈ gT_ ∧ Cond.static arraycopyName ∈ gT_ ∧ Cond.initialized "java/lang/System" ∈ gT_) (hR : 1 ≤ rm.frames ∧ (st.map fun v => v.category).sum + (nativeFrameWords "java/lang/System" "arraycopy" 5 + 11) ≤ rm.locals) (d : decode cc pc = .ok (.invokestatic index, 3)) (h : ac_ μ q1 n1 a1 q2 n2 a2 len f = some r) (kk : ∀ μ1, f μ1 = some r → wx_ G X N ad ce μ1 k n p1 lv st) : wx_ G X N ad ce μ k n pc lv (.int (iI len) :: .int (iI a2) :: .ref (ad q2) :: .int (iI a1) :: .ref (ad q1) :: st) := by
  obtain ⟨p, l, e, R, s, m, args, below, meth, c, Q, A, nL⟩ := X
  intro H locs ls hP hD hS hl
  subst hp
  obtain ⟨⟨g1, g2, g3, g4, g5⟩, h⟩ := ck_e h
  have hR' : R = rm := C.2.2.2.2.2.2.2.2.2.1
  have z0 : ∀ {z : Int}, 0 ≤ z → z ≤ 2147483647 → ¬ iI z < 0 := fun {z} h1 h2 q => by
    have := (iI_lt (a := z) (b := 0) (by omega) (by decide)).mp q
    omega
  have c1 : (iI a1).toNatClampNeg = a1.toNat := iI_clamp (by omega)
  have c2 : (iI a2).toNatClampNeg = a2.toNat := iI_clamp (by omega)
  have c3 : (iI len).toNatClampNeg = len.toNat := iI_clamp (by omega)
  refine va_copyi C.1 C.2.1 (C.2.2.2.2.2.2.1.trans hl.1.symm) C.2.2.2.1 (C.2.2.1 _ hw.1) (C.2.2.1 _ hw.2.1) (C.2.2.1 _ hw.2.2.1) (C.2.2.1 _ hw.2.2.2) C.2.2.2.2.1 hP hD hS q1 q2 0 0 ((wl_get hq1).trans (by rw [he1])) ((wl_get hq2).trans (by rw [he2])) rfl rfl rfl (z0 g1 (by omega)) (z0 g2 (by omega)) (z0 g3 (by omega)) (by rw [c1, c3]; omega) (by rw [c2, c3]; omega) (fun _ _ => rfl) (by rw [hR']; exact hR.1) (by rw [hR']; exact hR.2) d (fun H1 locs1 hP1 hD1 hS1 => ?_)
  have e1 : va_cpy (fun j : Nat => iI (μ q1 (j : Int))) (fun j : Nat => iI (μ q2 (j : Int))) (iI a1).toNatClampNeg (iI a2).toNatClampNeg (iI len).toNatClampNeg = fun j : Nat => iI ((fun j : Int => if a2 ≤ j ∧ j < a2 + len then μ q1 (a1 + (j - a2)) else μ q2 j) (j : Int)) := by
    funext j
    rw [c1, c2, c3]
    unfold va_cpy
    by_cases hj : a2.toNat ≤ j ∧ j < a2.toNat + len.toNat
    · rw [if_pos hj]
      show iI (μ q1 _) = iI (if _ then _ else _)
      rw [if_pos (by omega)]
      congr 2
      omega
    · rw [if_neg hj]
      show iI (μ q2 _) = iI (if _ then _ else _)
      rw [if_neg (by omega)]
  rw [e1, ← he2 (fun j : Int => if a2 ≤ j ∧ j < a2 + len then μ q1 (a1 + (j - a2)) else μ q2 j), wl_set] at hP1 hD1
  exact kk _ h H1 locs1 ls hP1 hD1 hS1 hl
theorem xx_mmin (C : cx_ G X cc own rm ret nl) (p1 : Nat) (hp : pc + 3 = p1) {index : Nat} {a b : Int} {f : Int → Option α} (hw : Cond.methodLink own index Lib.Math.min.name ∈ gT_ ∧ Cond.static Lib.Math.min.name ∈ gT_ ∧ Cond.initialized "java/lang/Math" ∈ gT_ ∧ Cond.code Lib.Math.min.name Lib.Math.min.code 2 (some .int) ∈ gT_) (hR : 1 ≤ rm.frames ∧ (st.map fun v => v.category).sum + 13 ≤ rm.locals) (hf : k ≤ rm.cells ∧ n ≤ rm.slots) (d : decode cc pc = .ok (.invokestatic index, 3)) (h : mn_ a b f = some r) (kk : ∀ v, f v = some r → wx_ G X N ad ce μ k n p1 lv (.int (iI v) :: st)) : wx_ G X N ad ce μ k n pc lv (.int (iI b) :: .int (iI a) :: st) := by
  obtain ⟨p, l, e, R, s, m, args, below, meth, c, Q, A, nL⟩ := X
  intro H locs ls hP hD hS hl
  subst hp
  obtain ⟨⟨ha, hb⟩, h⟩ := ck_e h
  have hR' : R = rm := C.2.2.2.2.2.2.2.2.2.1
  refine va_mmin C.1 C.2.1 (C.2.2.2.2.2.2.1.trans hl.1.symm) C.2.2.2.1 (C.2.2.1 _ hw.1) (C.2.2.1 _ hw.2.1) (C.2.2.1 _ hw.2.2.1) (C.2.2.1 _ hw.2.2.2) (by rw [hR']; exact hR.1) (by rw [hR']; exact hR.2) (by rw [hR']; exact hf.1) (by rw [hR']; exact hf.2) d ?_
  have hk := kk _ h H locs ls hP hD hS hl
  by_cases hc : b < a
  · rw [if_pos hc] at hk
    rw [show (if iI b < iI a then iI b else iI a) = iI b from if_pos ((iI_lt hb ha).mpr hc)]
    exact hk
  · rw [if_neg hc] at hk
    rw [show (if iI b < iI a then iI b else iI a) = iI a from if_neg (fun q => hc ((iI_lt hb ha).mp q))]
    exact hk
theorem xx_mmax (C : cx_ G X cc own rm ret nl) (p1 : Nat) (hp : pc + 3 = p1) {index : Nat} {a b : Int} {f : Int → Option α} (hw : Cond.methodLink own index Lib.Math.max.name ∈ gT_ ∧ Cond.static Lib.Math.max.name ∈ gT_ ∧ Cond.initialized "java/lang/Math" ∈ gT_ ∧ Cond.code Lib.Math.max.name Lib.Math.max.code 2 (some .int) ∈ gT_) (hR : 1 ≤ rm.frames ∧ (st.map fun v => v.category).sum + 13 ≤ rm.locals) (hf : k ≤ rm.cells ∧ n ≤ rm.slots) (d : decode cc pc = .ok (.invokestatic index, 3)) (h : mx_ a b f = some r) (kk : ∀ v, f v = some r → wx_ G X N ad ce μ k n p1 lv (.int (iI v) :: st)) : wx_ G X N ad ce μ k n pc lv (.int (iI b) :: .int (iI a) :: st) := by
  obtain ⟨p, l, e, R, s, m, args, below, meth, c, Q, A, nL⟩ := X
  intro H locs ls hP hD hS hl
  subst hp
  obtain ⟨⟨ha, hb⟩, h⟩ := ck_e h
  have hR' : R = rm := C.2.2.2.2.2.2.2.2.2.1
  refine va_mmax C.1 C.2.1 (C.2.2.2.2.2.2.1.trans hl.1.symm) C.2.2.2.1 (C.2.2.1 _ hw.1) (C.2.2.1 _ hw.2.1) (C.2.2.1 _ hw.2.2.1) (C.2.2.1 _ hw.2.2.2) (by rw [hR']; exact hR.1) (by rw [hR']; exact hR.2) (by rw [hR']; exact hf.1) (by rw [hR']; exact hf.2) d ?_
  have hk := kk _ h H locs ls hP hD hS hl
  by_cases hc : a < b
  · rw [if_pos hc] at hk
    rw [show (if iI a < iI b then iI b else iI a) = iI b from if_pos ((iI_lt ha hb).mpr hc)]
    exact hk
  · rw [if_neg hc] at hk
    rw [show (if iI a < iI b then iI b else iI a) = iI a from if_neg (fun q => hc ((iI_lt ha hb).mp q))]
    exact hk
theorem xx_ddiv (C : cx_ G X cc own rm ret nl) (p1 : Nat) (hp : pc + 1 = p1) {x y : UInt64} {f : UInt64 → Option α} (d : decode cc pc = .ok (.ddiv, 1)) (h : dd_ x y f = some r) (kk : ∀ v, f v = some r → wx_ G X N ad ce μ k n p1 lv (.double v :: st)) : wx_ G X N ad ce μ k n pc lv (.double y :: .double x :: st) := by
  obtain ⟨p, l, e, R, s, m, args, below, meth, c, Q, A, nL⟩ := X
  intro H locs ls hP hD hS hl
  subst hp
  obtain ⟨hn, h⟩ := ck_e h
  exact lv_ddiv C.1 C.2.1 d hn (kk _ h H locs ls hP hD hS hl)
theorem xx_fdiv (C : cx_ G X cc own rm ret nl) (p1 : Nat) (hp : pc + 1 = p1) {x y : UInt32} {f : UInt32 → Option α} (d : decode cc pc = .ok (.fdiv, 1)) (h : fd_ x y f = some r) (kk : ∀ v, f v = some r → wx_ G X N ad ce μ k n p1 lv (.float v :: st)) : wx_ G X N ad ce μ k n pc lv (.float y :: .float x :: st) := by
  obtain ⟨p, l, e, R, s, m, args, below, meth, c, Q, A, nL⟩ := X
  intro H locs ls hP hD hS hl
  subst hp
  obtain ⟨hn, h⟩ := ck_e h
  exact lv_fdiv C.1 C.2.1 d hn (kk _ h H locs ls hP hD hS hl)
end XR
def qd_ (G : gp_) (N : Nat) (ad : Nat → Nat) (ce : Nat → (Int → Int) → va_E) (A : Nat → Prop) (a : UInt64) (μ : mu_T) : Array Value → State → Outcome → State → Prop := va_Qd (fun (r : UInt64) (_ : Unit) => r = a) (fun _ t => po_ G N ad ce A μ t) A
def md_ (y : MethodName) (cc : ByteArray) (maxL : Nat) (ret : Option FieldType) (rm : Room) (G : gp_) (N : Nat) (ad : Nat → Nat) (ce : Nat → (Int → Int) → va_E) (av : List Value) (μ : mu_T) (a : UInt64) (μ1 : mu_T) : Prop := ∀ (l : Launch) (sz : Nat), Met l y (Cond.code y cc maxL ret :: gT_) rm (va_Pc av (pr_ G N ad ce μ sz)) (qd_ G N ad ce (va_A (wl_ N ad ce μ) sz) a μ1) rm.cells rm.slots (va_A (wl_ N ad ce μ) sz)
def ed_ (G : gp_) (X : ct_) (N : Nat) (ad : Nat → Nat) (ce : Nat → (Int → Int) → va_E) (a : UInt64) (μ : mu_T) (rm : Room) : Prop := match X with
  | (_, _, _, _, s, _, args, below, _, _, Q, A, _) => Q = MQ below (qd_ G N ad ce A a μ) args s rm.cells rm.slots A
def qf_ (G : gp_) (N : Nat) (ad : Nat → Nat) (ce : Nat → (Int → Int) → va_E) (A : Nat → Prop) (a : UInt32) (μ : mu_T) : Array Value → State → Outcome → State → Prop := va_Qf (fun (r : UInt32) (_ : Unit) => r = a) (fun _ t => po_ G N ad ce A μ t) A
def mf_ (y : MethodName) (cc : ByteArray) (maxL : Nat) (ret : Option FieldType) (rm : Room) (G : gp_) (N : Nat) (ad : Nat → Nat) (ce : Nat → (Int → Int) → va_E) (av : List Value) (μ : mu_T) (a : UInt32) (μ1 : mu_T) : Prop := ∀ (l : Launch) (sz : Nat), Met l y (Cond.code y cc maxL ret :: gT_) rm (va_Pc av (pr_ G N ad ce μ sz)) (qf_ G N ad ce (va_A (wl_ N ad ce μ) sz) a μ1) rm.cells rm.slots (va_A (wl_ N ad ce μ) sz)
def ef_ (G : gp_) (X : ct_) (N : Nat) (ad : Nat → Nat) (ce : Nat → (Int → Int) → va_E) (a : UInt32) (μ : mu_T) (rm : Room) : Prop := match X with
  | (_, _, _, _, s, _, args, below, _, _, Q, A, _) => Q = MQ below (qf_ G N ad ce A a μ) args s rm.cells rm.slots A
section MIN
variable {y : MethodName} {cc : ByteArray} {maxL : Nat} {ret : Option FieldType} {rm : Room} {G : gp_} {N : Nat} {ad : Nat → Nat} {ce : Nat → (Int → Int) → va_E} {av : List Value} {μ μ' : mu_T} {a : UInt64} {own : String} {lv : List (Nat × Value)}
theorem md_in (hy : plainName y.cls = true) (hown : y.cls = own) (hlv : lv_args 0 av = lv) (hn : (lg_sl av).length ≤ maxL) (body : ∀ X : ct_, cx_ G X cc own rm ret maxL → ed_ G X N ad ce a μ' rm → wx_ G X N ad ce μ 0 0 0 lv [])   : md_ y cc maxL ret rm G N ad ce av μ a μ' := by
  intro l sz
  refine Met.ofW (cc := cc) (maxL := maxL) (ret := ret) hy rfl ?_
  intro p e s m args below meth c s₁ B hml hv
  obtain ⟨rfl, hsz, hP, hK, hD0, hbs, hg⟩ := hv
  subst hsz
  have hts := atoms_spec (ws := Cond.code y cc maxL ret :: gT_) B.pre
  have hfc : s.vm.findClass y.cls = some m.cls := findClass_of_methodNamed B.named
  rw [lg_entry_eq]
  have hl := lv_entry av hn
  rw [hlv] at hl
  have hAb : ∀ q, va_A (wl_ N ad ce μ) s.heap.size q → G.2.2 ≤ q := fun q h => by
    rcases h with ⟨k, e, h⟩ | h
    · exact hD0.2 k _ h
    · exact Nat.le_trans hbs h
  exact body (p, l, e, (headSpec (Cond.code y cc maxL ret :: gT_) rm).room, s, m, av.toArray, below, meth, c, _, va_A (wl_ N ad ce μ) s.heap.size, maxL)
    ⟨B.exec, B.bytes, fun w hw => hts w (List.mem_cons_of_mem _ hw), hown ▸ hfc, hK, fun q h => Or.inr h, hml, B.notSynchronized, hAb, rfl, B.returns, hg, rfl⟩ rfl s.heap [] _ hP (hD0.self (sz := s.heap.size)) va_S.rf hl
end MIN
section MIN
variable {y : MethodName} {cc : ByteArray} {maxL : Nat} {ret : Option FieldType} {rm : Room} {G : gp_} {N : Nat} {ad : Nat → Nat} {ce : Nat → (Int → Int) → va_E} {av : List Value} {μ μ' : mu_T} {a : UInt32} {own : String} {lv : List (Nat × Value)}
theorem mf_in (hy : plainName y.cls = true) (hown : y.cls = own) (hlv : lv_args 0 av = lv) (hn : (lg_sl av).length ≤ maxL) (body : ∀ X : ct_, cx_ G X cc own rm ret maxL → ef_ G X N ad ce a μ' rm → wx_ G X N ad ce μ 0 0 0 lv [])   : mf_ y cc maxL ret rm G N ad ce av μ a μ' := by
  intro l sz
  refine Met.ofW (cc := cc) (maxL := maxL) (ret := ret) hy rfl ?_
  intro p e s m args below meth c s₁ B hml hv
  obtain ⟨rfl, hsz, hP, hK, hD0, hbs, hg⟩ := hv
  subst hsz
  have hts := atoms_spec (ws := Cond.code y cc maxL ret :: gT_) B.pre
  have hfc : s.vm.findClass y.cls = some m.cls := findClass_of_methodNamed B.named
  rw [lg_entry_eq]
  have hl := lv_entry av hn
  rw [hlv] at hl
  have hAb : ∀ q, va_A (wl_ N ad ce μ) s.heap.size q → G.2.2 ≤ q := fun q h => by
    rcases h with ⟨k, e, h⟩ | h
    · exact hD0.2 k _ h
    · exact Nat.le_trans hbs h
  exact body (p, l, e, (headSpec (Cond.code y cc maxL ret :: gT_) rm).room, s, m, av.toArray, below, meth, c, _, va_A (wl_ N ad ce μ) s.heap.size, maxL)
    ⟨B.exec, B.bytes, fun w hw => hts w (List.mem_cons_of_mem _ hw), hown ▸ hfc, hK, fun q h => Or.inr h, hml, B.notSynchronized, hAb, rfl, B.returns, hg, rfl⟩ rfl s.heap [] _ hP (hD0.self (sz := s.heap.size)) va_S.rf hl
end MIN
section XR
variable {G : gp_} {X : ct_} {N : Nat} {ad : Nat → Nat} {ce : Nat → (Int → Int) → va_E} {μ : mu_T} {k n pc : Nat} {lv lv1 : List (Nat × Value)} {st stk : List Value} {cc : ByteArray} {own : String} {rm : Room} {ret : Option FieldType} {nl : Nat} {α : Type} {r : α}
theorem xx_dret (C : cx_ G X cc own rm ret nl) {e0 a : UInt64} (E : ed_ G X N ad ce a μ rm) (hr : ret = some .double) (hk : k ≤ rm.cells ∧ n ≤ rm.slots) (d : decode cc pc = .ok (.dreturn, 1)) (h : some e0 = some a) : wx_ G X N ad ce μ k n pc lv [.double e0] := by
  obtain ⟨p, l, e, R, s, m, args, below, meth, c, Q, A, nL⟩ := X
  intro H locs ls hP hD hS hl
  obtain rfl := Option.some.inj h
  obtain ⟨hx, hb, -, -, hK, -, -, hlocks, -, -, hrt, -, -⟩ := C
  subst hr
  rw [show Q = _ from E]
  refine W.widen hk.1 hk.2 ?_
  exact W.dret hx hb hrt (fun t ht hW => ⟨⟨_, (), rfl, rfl, by rw [ht]; exact hP, va_K.moved hW.alike hK, hD⟩, hS.F ht⟩) hS.2.2 d hlocks
theorem xx_fret (C : cx_ G X cc own rm ret nl) {e0 a : UInt32} (E : ef_ G X N ad ce a μ rm) (hr : ret = some .float) (hk : k ≤ rm.cells ∧ n ≤ rm.slots) (d : decode cc pc = .ok (.freturn, 1)) (h : some e0 = some a) : wx_ G X N ad ce μ k n pc lv [.float e0] := by
  obtain ⟨p, l, e, R, s, m, args, below, meth, c, Q, A, nL⟩ := X
  intro H locs ls hP hD hS hl
  obtain rfl := Option.some.inj h
  obtain ⟨hx, hb, -, -, hK, -, -, hlocks, -, -, hrt, -, -⟩ := C
  subst hr
  rw [show Q = _ from E]
  refine W.widen hk.1 hk.2 ?_
  exact W.fret hx hb hrt (fun t ht hW => ⟨⟨_, (), rfl, rfl, by rw [ht]; exact hP, va_K.moved hW.alike hK, hD⟩, hS.F ht⟩) hS.2.2 d hlocks
theorem xx_dretm (C : cx_ G X cc own rm ret nl) {e0 a : UInt64} {μ2 : mu_T} (E : ed_ G X N ad ce a μ2 rm) (hr : ret = some .double) (hk : k ≤ rm.cells ∧ n ≤ rm.slots) (d : decode cc pc = .ok (.dreturn, 1)) (h : some (e0, μ) = some (a, μ2)) : wx_ G X N ad ce μ k n pc lv [.double e0] := by
  obtain ⟨p, l, e, R, s, m, args, below, meth, c, Q, A, nL⟩ := X
  intro H locs ls hP hD hS hl
  obtain ⟨rfl, rfl⟩ := Prod.mk.inj (Option.some.inj h)
  obtain ⟨hx, hb, -, -, hK, -, -, hlocks, -, -, hrt, -, -⟩ := C
  subst hr
  rw [show Q = _ from E]
  refine W.widen hk.1 hk.2 ?_
  exact W.dret hx hb hrt (fun t ht hW => ⟨⟨_, (), rfl, rfl, by rw [ht]; exact hP, va_K.moved hW.alike hK, hD⟩, hS.F ht⟩) hS.2.2 d hlocks
theorem xx_fretm (C : cx_ G X cc own rm ret nl) {e0 a : UInt32} {μ2 : mu_T} (E : ef_ G X N ad ce a μ2 rm) (hr : ret = some .float) (hk : k ≤ rm.cells ∧ n ≤ rm.slots) (d : decode cc pc = .ok (.freturn, 1)) (h : some (e0, μ) = some (a, μ2)) : wx_ G X N ad ce μ k n pc lv [.float e0] := by
  obtain ⟨p, l, e, R, s, m, args, below, meth, c, Q, A, nL⟩ := X
  intro H locs ls hP hD hS hl
  obtain ⟨rfl, rfl⟩ := Prod.mk.inj (Option.some.inj h)
  obtain ⟨hx, hb, -, -, hK, -, -, hlocks, -, -, hrt, -, -⟩ := C
  subst hr
  rw [show Q = _ from E]
  refine W.widen hk.1 hk.2 ?_
  exact W.fret hx hb hrt (fun t ht hW => ⟨⟨_, (), rfl, rfl, by rw [ht]; exact hP, va_K.moved hW.alike hK, hD⟩, hS.F ht⟩) hS.2.2 d hlocks
theorem nar_c {e : Int} (h : 0 ≤ e ∧ e < 65536) : narrow .char (.int (iI e)) = .int (iI e) := by
  have e1 : iI e = nI e.toNat := by rw [show nI e.toNat = iI ((e.toNat : Nat) : Int) from iI_nat _, show ((e.toNat : Nat) : Int) = e by omega]
  rw [e1]
  exact (pk_charN (by omega)).1
theorem xx_cretp (C : cx_ G X cc own rm ret nl) {e0 a : Int} (E : ei_ G X N ad ce a μ rm) (hr : ret = some .char) (hk : k ≤ rm.cells ∧ n ≤ rm.slots) (d : decode cc pc = .ok (.ireturn, 1)) (h : rc_ e0 = some a) : wx_ G X N ad ce μ k n pc lv [.int (iI e0)] := by
  obtain ⟨hz, h⟩ := ck_e h
  exact xx_zret C E hr (nar_c hz) hk d (by rw [Option.some.inj h])
theorem xx_cNip (C : cx_ G X cc own rm ret nl) (p1 : Nat) (hp : pc + 3 = p1) {F : Option Int} {f : Int → Option α} {y : MethodName} {bytes : ByteArray} {maxL nA index : Nat} {ret2 : Option FieldType} {rm2 : Room} {As : List Value} (hca : ca_ y bytes maxL ret2 nA) (hcs : Cond.static y ∈ gT_) (i9 : Nat) (m1 : nwl_[i9]? = some (own, index, y)) (hn : As.length = nA) (hR : rm2.frames + 1 ≤ rm.frames ∧ 8 + (maxL + 11) + rm2.locals ≤ rm.locals) (hf : k + rm2.cells ≤ rm.cells ∧ n + rm2.slots ≤ rm.slots) (hW : (st.map fun v => v.category).sum ≤ 8) (d : decode cc pc = .ok (.invokestatic index, 3)) (hM : ∀ a, F = some a → mi_ y bytes maxL ret2 rm2 G N ad ce As μ a μ) (h : bd_ F f = some r) (kk : ∀ a, f a = some r → wx_ G X N ad ce μ (k + rm2.cells) (n + rm2.slots) p1 lv (.int (iI a) :: st)) (hst : stk = As.reverse ++ st) : wx_ G X N ad ce μ k n pc lv stk := by
  obtain ⟨p, l, e, R, s, m, args, below, meth, c, Q, A, nL⟩ := X
  intro H locs ls hP hD hS hl
  subst hp
  have hts := C.2.2.1
  have hK := C.2.2.2.2.1
  have hA := C.2.2.2.2.2.1
  have hAb := C.2.2.2.2.2.2.2.2.1
  have hR' : R = rm := C.2.2.2.2.2.2.2.2.2.1
  have hg := C.2.2.2.2.2.2.2.2.2.2.2.1
  subst hR'
  have hsz : G.2.2 ≤ H.size := by
    have h1 := hAb s.heap.size (hA _ (Nat.le_refl _))
    exact Nat.le_trans h1 hS.1
  have hDb : va_D (fun q => G.2.2 ≤ q) (wl_ N ad ce μ) := hD.weaken (fun _ q _ h => hAb q.1 h)
  have hgH : gk_ G s H := gk_kept hg (fun a h1 h2 => hS.2.1 a h1 (fun q => h2 (hAb a q)))
  have hF : ∀ q, va_A (wl_ N ad ce μ) H.size q → A q := fun q h => by
    rcases h with ⟨j, e9, h⟩ | h
    · exact hD.2 j _ h
    · exact hA q (Nat.le_trans hS.1 h)
  have hpre : ∀ U : State, U.heap = H → s.WarmedH U.vm → pr_ G N ad ce μ H.size U := fun U hU hW9 => ⟨by rw [hU], by rw [hU]; exact hP, va_K.moved hW9.alike hK, hDb, hsz, by rw [hU]; exact gk_warm hW9 hgH⟩
  subst hst
  obtain ⟨a9, e9, h⟩ := bd_e h
  have hM9 := hM a9 e9 l H.size
  have hnw : va_Nw (.methodLinkNest own index y "UrnHeap") s := hg.2.2.2.2.1 _ (List.mem_of_getElem? m1)
  have hpreV : ∀ U : State, U.heap = H → s.WarmedH U.vm → va_Pc As (pr_ G N ad ce μ H.size) (As).toArray U := fun U hU hW9 => ⟨rfl, hpre U hU hW9⟩
  refine va_calli (va_runSN (host := "UrnHeap") (rest := st) ⟨C.1, C.2.1, C.2.2.2.2.2.2.1, C.2.2.2.1, hts⟩ hM9 ⟨va_cnB nA hts (gT_in hca.2.1) rfl rfl rfl hnw (hts _ hca.1) hca.2.2 hR, hts _ hcs, trivial⟩ ⟨(fun a U g mk q => by obtain ⟨q0, q1, qP, qK, qD, q2, q3⟩ := q; exact ⟨q0, q1, qP, va_K.moved (u := U) (U := U.calling g mk a) (Vm.Alike.refl U.vm) qK, qD, q2, gk_same (u := U) (U := U.calling g mk a) rfl q3⟩), hpreV⟩ rfl hn hl.1 rfl (lv_room hW) d hf) hS (fun q _ h => hF q h) hF (fun r9 u t H1 locs1 ht hvm hw hB hz1 hk1 hS1 => ?_)
  obtain ⟨hP1, hK1, hD1⟩ := hB
  rw [ht] at hP1
  rw [hw]
  exact kk a9 h H1 locs1 ls hP1 (hD1.weaken (fun _ q _ h => hF q.1 h)) hS1 hl
end XR
end
section
/-! the methods of the JDK that touch no world (written by wip/gen/jgen.py) -/
theorem w_901 : Cond.fieldLink "java/lang/String" 38 "java/lang/String" "COMPACT_STRINGS" "Z" ∈ gT_ := gm_ 901 (by decide +kernel)
theorem w_1603 : Cond.fieldLink "java/lang/String" 15 "java/lang/String" "coder" "B" ∈ gT_ := gm_ 1603 (by decide +kernel)
theorem w_897 : Cond.methodLink "java/lang/String" 335 yJ0_coder_7d493 ∈ gT_ := gm_ 897 (by decide +kernel)
theorem w_1602 : Cond.fieldLink "java/lang/String" 9 "java/lang/String" "value" "[B" ∈ gT_ := gm_ 1602 (by decide +kernel)
theorem w_849 : Cond.fieldLink "java/lang/String" 1053 "jdk/internal/util/Preconditions" "SIOOBE_FORMATTER" "Ljava/util/function/BiFunction;" ∈ gT_ := gm_ 849 (by decide +kernel)
theorem w_872 : Cond.methodLink "java/lang/String" 1059 yJ3_checkIndex_8e157 ∈ gT_ := gm_ 872 (by decide +kernel)
theorem w_913 : Cond.methodLink "java/lang/StringLatin1" 9 yJ0_checkIndex_df160 ∈ gT_ := gm_ 913 (by decide +kernel)
theorem w_910 : Cond.methodLink "java/lang/String" 495 yJ1_charAt_3b067 ∈ gT_ := gm_ 910 (by decide +kernel)
theorem w_906 : Cond.methodLink "java/lang/String" 492 yJ0_isLatin1_aae02 ∈ gT_ := gm_ 906 (by decide +kernel)
theorem w_1129 : Cond.constant "java/lang/Integer" 265 (1431655765) ∈ gT_ := gm_ 1129 (by decide +kernel)
theorem w_1130 : Cond.constant "java/lang/Integer" 266 (858993459) ∈ gT_ := gm_ 1130 (by decide +kernel)
theorem w_1131 : Cond.constant "java/lang/Integer" 267 (252645135) ∈ gT_ := gm_ 1131 (by decide +kernel)
theorem w_1604 : Cond.fieldLink "java/lang/Enum" 7 "java/lang/Enum" "ordinal" "I" ∈ gT_ := gm_ 1604 (by decide +kernel)
theorem w_88 : Cond.initialized "java/lang/String" ∈ gT_ := gm_ 88 (by decide +kernel)
theorem w_900 : Cond.code yJ0_coder_7d493 cJ0_coder_7d493 1 (some .byte) ∈ gT_ := gm_ 900 (by decide +kernel)
theorem w_898 : Cond.instanceMethod yJ0_coder_7d493 ∈ gT_ := gm_ 898 (by decide +kernel)
theorem w_899 : Cond.selects "java/lang/String" yJ0_coder_7d493 yJ0_coder_7d493 ∈ gT_ := gm_ 899 (by decide +kernel)
theorem w_896 : Cond.code yJ0_length_8abf5 cJ0_length_8abf5 1 (some .int) ∈ gT_ := gm_ 896 (by decide +kernel)
theorem w_894 : Cond.instanceMethod yJ0_length_8abf5 ∈ gT_ := gm_ 894 (by decide +kernel)
theorem w_895 : Cond.selects "java/lang/String" yJ0_length_8abf5 yJ0_length_8abf5 ∈ gT_ := gm_ 895 (by decide +kernel)
theorem w_909 : Cond.code yJ0_isLatin1_aae02 cJ0_isLatin1_aae02 1 (some .boolean) ∈ gT_ := gm_ 909 (by decide +kernel)
theorem w_907 : Cond.instanceMethod yJ0_isLatin1_aae02 ∈ gT_ := gm_ 907 (by decide +kernel)
theorem w_908 : Cond.selects "java/lang/String" yJ0_isLatin1_aae02 yJ0_isLatin1_aae02 ∈ gT_ := gm_ 908 (by decide +kernel)
theorem w_96 : Cond.initialized "jdk/internal/util/Preconditions" ∈ gT_ := gm_ 96 (by decide +kernel)
theorem w_874 : Cond.code yJ3_checkIndex_8e157 cJ3_checkIndex_8e157 3 (some .int) ∈ gT_ := gm_ 874 (by decide +kernel)
theorem w_873 : Cond.static yJ3_checkIndex_8e157 ∈ gT_ := gm_ 873 (by decide +kernel)
theorem w_871 : Cond.code yJ0_checkIndex_df160 cJ0_checkIndex_df160 2 none ∈ gT_ := gm_ 871 (by decide +kernel)
theorem w_870 : Cond.static yJ0_checkIndex_df160 ∈ gT_ := gm_ 870 (by decide +kernel)
theorem w_95 : Cond.initialized "java/lang/StringLatin1" ∈ gT_ := gm_ 95 (by decide +kernel)
theorem w_912 : Cond.code yJ1_charAt_3b067 cJ1_charAt_3b067 2 (some .char) ∈ gT_ := gm_ 912 (by decide +kernel)
theorem w_911 : Cond.static yJ1_charAt_3b067 ∈ gT_ := gm_ 911 (by decide +kernel)
theorem w_905 : Cond.code yJ0_charAt_5068e cJ0_charAt_5068e 2 (some .char) ∈ gT_ := gm_ 905 (by decide +kernel)
theorem w_903 : Cond.instanceMethod yJ0_charAt_5068e ∈ gT_ := gm_ 903 (by decide +kernel)
theorem w_904 : Cond.selects "java/lang/String" yJ0_charAt_5068e yJ0_charAt_5068e ∈ gT_ := gm_ 904 (by decide +kernel)
theorem w_101 : Cond.initialized "java/lang/Integer" ∈ gT_ := gm_ 101 (by decide +kernel)
theorem w_1128 : Cond.code yJ6_bitCount_0f7a4 cJ6_bitCount_0f7a4 1 (some .int) ∈ gT_ := gm_ 1128 (by decide +kernel)
theorem w_1127 : Cond.static yJ6_bitCount_0f7a4 ∈ gT_ := gm_ 1127 (by decide +kernel)
theorem w_1014 : Cond.code yJ6_stringSize_0f7a4 cJ6_stringSize_0f7a4 4 (some .int) ∈ gT_ := gm_ 1014 (by decide +kernel)
theorem w_1013 : Cond.static yJ6_stringSize_0f7a4 ∈ gT_ := gm_ 1013 (by decide +kernel)
theorem w_829 : Cond.code yJ1_canEncode_fc78d cJ1_canEncode_fc78d 1 (some .boolean) ∈ gT_ := gm_ 829 (by decide +kernel)
theorem w_828 : Cond.static yJ1_canEncode_fc78d ∈ gT_ := gm_ 828 (by decide +kernel)
theorem w_97 : Cond.initialized "java/lang/Enum" ∈ gT_ := gm_ 97 (by decide +kernel)
theorem w_989 : Cond.code yJx29ce0_ordinal_8abf5 cJx29ce0_ordinal_8abf5 1 (some .int) ∈ gT_ := gm_ 989 (by decide +kernel)
theorem ca_J0_coder_7d493 : ca_ yJ0_coder_7d493 cJ0_coder_7d493 1 (some .byte) 0 := ⟨w_88, w_900, by decide, by decide, by decide +kernel⟩
theorem cv_J0_coder_7d493 : cv_ yJ0_coder_7d493 := ⟨w_898, w_899⟩
theorem ca_J0_length_8abf5 : ca_ yJ0_length_8abf5 cJ0_length_8abf5 1 (some .int) 0 := ⟨w_88, w_896, by decide, by decide, by decide +kernel⟩
theorem cv_J0_length_8abf5 : cv_ yJ0_length_8abf5 := ⟨w_894, w_895⟩
theorem ca_J0_isLatin1_aae02 : ca_ yJ0_isLatin1_aae02 cJ0_isLatin1_aae02 1 (some .boolean) 0 := ⟨w_88, w_909, by decide, by decide, by decide +kernel⟩
theorem cv_J0_isLatin1_aae02 : cv_ yJ0_isLatin1_aae02 := ⟨w_907, w_908⟩
theorem ca_J3_checkIndex_8e157 : ca_ yJ3_checkIndex_8e157 cJ3_checkIndex_8e157 3 (some .int) 3 := ⟨w_96, w_874, by decide, by decide, by decide +kernel⟩
theorem cs_J3_checkIndex_8e157 : Cond.static yJ3_checkIndex_8e157 ∈ gT_ := w_873
theorem ca_J0_checkIndex_df160 : ca_ yJ0_checkIndex_df160 cJ0_checkIndex_df160 2 none 2 := ⟨w_88, w_871, by decide, by decide, by decide +kernel⟩
theorem cs_J0_checkIndex_df160 : Cond.static yJ0_checkIndex_df160 ∈ gT_ := w_870
theorem ca_J1_charAt_3b067 : ca_ yJ1_charAt_3b067 cJ1_charAt_3b067 2 (some .char) 2 := ⟨w_95, w_912, by decide, by decide, by decide +kernel⟩
theorem cs_J1_charAt_3b067 : Cond.static yJ1_charAt_3b067 ∈ gT_ := w_911
theorem ca_J0_charAt_5068e : ca_ yJ0_charAt_5068e cJ0_charAt_5068e 2 (some .char) 1 := ⟨w_88, w_905, by decide, by decide, by decide +kernel⟩
theorem cv_J0_charAt_5068e : cv_ yJ0_charAt_5068e := ⟨w_903, w_904⟩
theorem ca_J6_bitCount_0f7a4 : ca_ yJ6_bitCount_0f7a4 cJ6_bitCount_0f7a4 1 (some .int) 1 := ⟨w_101, w_1128, by decide, by decide, by decide +kernel⟩
theorem cs_J6_bitCount_0f7a4 : Cond.static yJ6_bitCount_0f7a4 ∈ gT_ := w_1127
theorem ca_J6_stringSize_0f7a4 : ca_ yJ6_stringSize_0f7a4 cJ6_stringSize_0f7a4 4 (some .int) 1 := ⟨w_101, w_1014, by decide, by decide, by decide +kernel⟩
theorem cs_J6_stringSize_0f7a4 : Cond.static yJ6_stringSize_0f7a4 ∈ gT_ := w_1013
theorem ca_J1_canEncode_fc78d : ca_ yJ1_canEncode_fc78d cJ1_canEncode_fc78d 1 (some .boolean) 1 := ⟨w_95, w_829, by decide, by decide, by decide +kernel⟩
theorem cs_J1_canEncode_fc78d : Cond.static yJ1_canEncode_fc78d ∈ gT_ := w_828
theorem ca_Jx29ce0_ordinal_8abf5 : ca_ yJx29ce0_ordinal_8abf5 cJx29ce0_ordinal_8abf5 1 (some .int) 0 := ⟨w_97, w_989, by decide, by decide, by decide +kernel⟩
end
section
theorem dJ0_coder_7d493_0 : decode cJ0_coder_7d493 0 = .ok (.getstatic 38, 3) := by decide +kernel
theorem dJ0_coder_7d493_3 : decode cJ0_coder_7d493 3 = .ok (.ifCond .eq 10, 3) := by decide +kernel
theorem dJ0_coder_7d493_6 : decode cJ0_coder_7d493 6 = .ok (.aload_n 0, 1) := by decide +kernel
theorem dJ0_coder_7d493_7 : decode cJ0_coder_7d493 7 = .ok (.getfield 15, 3) := by decide +kernel
theorem dJ0_coder_7d493_10 : decode cJ0_coder_7d493 10 = .ok (.goto 4, 3) := by decide +kernel
theorem dJ0_coder_7d493_13 : decode cJ0_coder_7d493 13 = .ok (.iconst 1, 1) := by decide +kernel
theorem dJ0_coder_7d493_14 : decode cJ0_coder_7d493 14 = .ok (.ireturn, 1) := by decide +kernel
theorem dJ0_length_8abf5_0 : decode cJ0_length_8abf5 0 = .ok (.aload_n 0, 1) := by decide +kernel
theorem dJ0_length_8abf5_1 : decode cJ0_length_8abf5 1 = .ok (.getfield 9, 3) := by decide +kernel
theorem dJ0_length_8abf5_4 : decode cJ0_length_8abf5 4 = .ok (.arraylength, 1) := by decide +kernel
theorem dJ0_length_8abf5_5 : decode cJ0_length_8abf5 5 = .ok (.aload_n 0, 1) := by decide +kernel
theorem dJ0_length_8abf5_6 : decode cJ0_length_8abf5 6 = .ok (.invokevirtual 335, 3) := by decide +kernel
theorem dJ0_length_8abf5_9 : decode cJ0_length_8abf5 9 = .ok (.ishr, 1) := by decide +kernel
theorem dJ0_length_8abf5_10 : decode cJ0_length_8abf5 10 = .ok (.ireturn, 1) := by decide +kernel
theorem dJ0_isLatin1_aae02_0 : decode cJ0_isLatin1_aae02 0 = .ok (.getstatic 38, 3) := by decide +kernel
theorem dJ0_isLatin1_aae02_3 : decode cJ0_isLatin1_aae02 3 = .ok (.ifCond .eq 14, 3) := by decide +kernel
theorem dJ0_isLatin1_aae02_6 : decode cJ0_isLatin1_aae02 6 = .ok (.aload_n 0, 1) := by decide +kernel
theorem dJ0_isLatin1_aae02_7 : decode cJ0_isLatin1_aae02 7 = .ok (.getfield 15, 3) := by decide +kernel
theorem dJ0_isLatin1_aae02_10 : decode cJ0_isLatin1_aae02 10 = .ok (.ifCond .ne 7, 3) := by decide +kernel
theorem dJ0_isLatin1_aae02_13 : decode cJ0_isLatin1_aae02 13 = .ok (.iconst 1, 1) := by decide +kernel
theorem dJ0_isLatin1_aae02_14 : decode cJ0_isLatin1_aae02 14 = .ok (.goto 4, 3) := by decide +kernel
theorem dJ0_isLatin1_aae02_17 : decode cJ0_isLatin1_aae02 17 = .ok (.iconst 0, 1) := by decide +kernel
theorem dJ0_isLatin1_aae02_18 : decode cJ0_isLatin1_aae02 18 = .ok (.ireturn, 1) := by decide +kernel
theorem dJ3_checkIndex_8e157_0 : decode cJ3_checkIndex_8e157 0 = .ok (.iload_n 0, 1) := by decide +kernel
theorem dJ3_checkIndex_8e157_1 : decode cJ3_checkIndex_8e157 1 = .ok (.ifCond .lt 8, 3) := by decide +kernel
theorem dJ3_checkIndex_8e157_4 : decode cJ3_checkIndex_8e157 4 = .ok (.iload_n 0, 1) := by decide +kernel
theorem dJ3_checkIndex_8e157_5 : decode cJ3_checkIndex_8e157 5 = .ok (.iload_n 1, 1) := by decide +kernel
theorem dJ3_checkIndex_8e157_6 : decode cJ3_checkIndex_8e157 6 = .ok (.if_icmp .lt 10, 3) := by decide +kernel
theorem dJ3_checkIndex_8e157_9 : decode cJ3_checkIndex_8e157 9 = .ok (.aload_n 2, 1) := by decide +kernel
theorem dJ3_checkIndex_8e157_10 : decode cJ3_checkIndex_8e157 10 = .ok (.iload_n 0, 1) := by decide +kernel
theorem dJ3_checkIndex_8e157_11 : decode cJ3_checkIndex_8e157 11 = .ok (.iload_n 1, 1) := by decide +kernel
theorem dJ3_checkIndex_8e157_12 : decode cJ3_checkIndex_8e157 12 = .ok (.invokestatic 95, 3) := by decide +kernel
theorem dJ3_checkIndex_8e157_15 : decode cJ3_checkIndex_8e157 15 = .ok (.athrow, 1) := by decide +kernel
theorem dJ3_checkIndex_8e157_16 : decode cJ3_checkIndex_8e157 16 = .ok (.iload_n 0, 1) := by decide +kernel
theorem dJ3_checkIndex_8e157_17 : decode cJ3_checkIndex_8e157 17 = .ok (.ireturn, 1) := by decide +kernel
theorem dJ0_checkIndex_df160_0 : decode cJ0_checkIndex_df160 0 = .ok (.iload_n 0, 1) := by decide +kernel
theorem dJ0_checkIndex_df160_1 : decode cJ0_checkIndex_df160 1 = .ok (.iload_n 1, 1) := by decide +kernel
theorem dJ0_checkIndex_df160_2 : decode cJ0_checkIndex_df160 2 = .ok (.getstatic 1053, 3) := by decide +kernel
theorem dJ0_checkIndex_df160_5 : decode cJ0_checkIndex_df160 5 = .ok (.invokestatic 1059, 3) := by decide +kernel
theorem dJ0_checkIndex_df160_8 : decode cJ0_checkIndex_df160 8 = .ok (.pop, 1) := by decide +kernel
theorem dJ0_checkIndex_df160_9 : decode cJ0_checkIndex_df160 9 = .ok (.return_, 1) := by decide +kernel
theorem dJ1_charAt_3b067_0 : decode cJ1_charAt_3b067 0 = .ok (.iload_n 1, 1) := by decide +kernel
theorem dJ1_charAt_3b067_1 : decode cJ1_charAt_3b067 1 = .ok (.aload_n 0, 1) := by decide +kernel
theorem dJ1_charAt_3b067_2 : decode cJ1_charAt_3b067 2 = .ok (.arraylength, 1) := by decide +kernel
theorem dJ1_charAt_3b067_3 : decode cJ1_charAt_3b067 3 = .ok (.invokestatic 9, 3) := by decide +kernel
theorem dJ1_charAt_3b067_6 : decode cJ1_charAt_3b067 6 = .ok (.aload_n 0, 1) := by decide +kernel
theorem dJ1_charAt_3b067_7 : decode cJ1_charAt_3b067 7 = .ok (.iload_n 1, 1) := by decide +kernel
theorem dJ1_charAt_3b067_8 : decode cJ1_charAt_3b067 8 = .ok (.baload, 1) := by decide +kernel
theorem dJ1_charAt_3b067_9 : decode cJ1_charAt_3b067 9 = .ok (.sipush 255, 3) := by decide +kernel
theorem dJ1_charAt_3b067_12 : decode cJ1_charAt_3b067 12 = .ok (.iand, 1) := by decide +kernel
theorem dJ1_charAt_3b067_13 : decode cJ1_charAt_3b067 13 = .ok (.i2c, 1) := by decide +kernel
theorem dJ1_charAt_3b067_14 : decode cJ1_charAt_3b067 14 = .ok (.ireturn, 1) := by decide +kernel
theorem dJ0_charAt_5068e_0 : decode cJ0_charAt_5068e 0 = .ok (.aload_n 0, 1) := by decide +kernel
theorem dJ0_charAt_5068e_1 : decode cJ0_charAt_5068e 1 = .ok (.invokevirtual 492, 3) := by decide +kernel
theorem dJ0_charAt_5068e_4 : decode cJ0_charAt_5068e 4 = .ok (.ifCond .eq 12, 3) := by decide +kernel
theorem dJ0_charAt_5068e_7 : decode cJ0_charAt_5068e 7 = .ok (.aload_n 0, 1) := by decide +kernel
theorem dJ0_charAt_5068e_8 : decode cJ0_charAt_5068e 8 = .ok (.getfield 9, 3) := by decide +kernel
theorem dJ0_charAt_5068e_11 : decode cJ0_charAt_5068e 11 = .ok (.iload_n 1, 1) := by decide +kernel
theorem dJ0_charAt_5068e_12 : decode cJ0_charAt_5068e 12 = .ok (.invokestatic 495, 3) := by decide +kernel
theorem dJ0_charAt_5068e_15 : decode cJ0_charAt_5068e 15 = .ok (.ireturn, 1) := by decide +kernel
theorem dJ0_charAt_5068e_16 : decode cJ0_charAt_5068e 16 = .ok (.aload_n 0, 1) := by decide +kernel
theorem dJ0_charAt_5068e_17 : decode cJ0_charAt_5068e 17 = .ok (.getfield 9, 3) := by decide +kernel
theorem dJ0_charAt_5068e_20 : decode cJ0_charAt_5068e 20 = .ok (.iload_n 1, 1) := by decide +kernel
theorem dJ0_charAt_5068e_21 : decode cJ0_charAt_5068e 21 = .ok (.invokestatic 498, 3) := by decide +kernel
theorem dJ0_charAt_5068e_24 : decode cJ0_charAt_5068e 24 = .ok (.ireturn, 1) := by decide +kernel
theorem dJ6_bitCount_0f7a4_0 : decode cJ6_bitCount_0f7a4 0 = .ok (.iload_n 0, 1) := by decide +kernel
theorem dJ6_bitCount_0f7a4_1 : decode cJ6_bitCount_0f7a4 1 = .ok (.iload_n 0, 1) := by decide +kernel
theorem dJ6_bitCount_0f7a4_2 : decode cJ6_bitCount_0f7a4 2 = .ok (.iconst 1, 1) := by decide +kernel
theorem dJ6_bitCount_0f7a4_3 : decode cJ6_bitCount_0f7a4 3 = .ok (.iushr, 1) := by decide +kernel
theorem dJ6_bitCount_0f7a4_4 : decode cJ6_bitCount_0f7a4 4 = .ok (.ldc_w 265, 3) := by decide +kernel
theorem dJ6_bitCount_0f7a4_7 : decode cJ6_bitCount_0f7a4 7 = .ok (.iand, 1) := by decide +kernel
theorem dJ6_bitCount_0f7a4_8 : decode cJ6_bitCount_0f7a4 8 = .ok (.isub, 1) := by decide +kernel
theorem dJ6_bitCount_0f7a4_9 : decode cJ6_bitCount_0f7a4 9 = .ok (.istore_n 0, 1) := by decide +kernel
theorem dJ6_bitCount_0f7a4_10 : decode cJ6_bitCount_0f7a4 10 = .ok (.iload_n 0, 1) := by decide +kernel
theorem dJ6_bitCount_0f7a4_11 : decode cJ6_bitCount_0f7a4 11 = .ok (.ldc_w 266, 3) := by decide +kernel
theorem dJ6_bitCount_0f7a4_14 : decode cJ6_bitCount_0f7a4 14 = .ok (.iand, 1) := by decide +kernel
theorem dJ6_bitCount_0f7a4_15 : decode cJ6_bitCount_0f7a4 15 = .ok (.iload_n 0, 1) := by decide +kernel
theorem dJ6_bitCount_0f7a4_16 : decode cJ6_bitCount_0f7a4 16 = .ok (.iconst 2, 1) := by decide +kernel
theorem dJ6_bitCount_0f7a4_17 : decode cJ6_bitCount_0f7a4 17 = .ok (.iushr, 1) := by decide +kernel
theorem dJ6_bitCount_0f7a4_18 : decode cJ6_bitCount_0f7a4 18 = .ok (.ldc_w 266, 3) := by decide +kernel
theorem dJ6_bitCount_0f7a4_21 : decode cJ6_bitCount_0f7a4 21 = .ok (.iand, 1) := by decide +kernel
theorem dJ6_bitCount_0f7a4_22 : decode cJ6_bitCount_0f7a4 22 = .ok (.iadd, 1) := by decide +kernel
theorem dJ6_bitCount_0f7a4_23 : decode cJ6_bitCount_0f7a4 23 = .ok (.istore_n 0, 1) := by decide +kernel
theorem dJ6_bitCount_0f7a4_24 : decode cJ6_bitCount_0f7a4 24 = .ok (.iload_n 0, 1) := by decide +kernel
theorem dJ6_bitCount_0f7a4_25 : decode cJ6_bitCount_0f7a4 25 = .ok (.iload_n 0, 1) := by decide +kernel
theorem dJ6_bitCount_0f7a4_26 : decode cJ6_bitCount_0f7a4 26 = .ok (.iconst 4, 1) := by decide +kernel
theorem dJ6_bitCount_0f7a4_27 : decode cJ6_bitCount_0f7a4 27 = .ok (.iushr, 1) := by decide +kernel
theorem dJ6_bitCount_0f7a4_28 : decode cJ6_bitCount_0f7a4 28 = .ok (.iadd, 1) := by decide +kernel
theorem dJ6_bitCount_0f7a4_29 : decode cJ6_bitCount_0f7a4 29 = .ok (.ldc_w 267, 3) := by decide +kernel
theorem dJ6_bitCount_0f7a4_32 : decode cJ6_bitCount_0f7a4 32 = .ok (.iand, 1) := by decide +kernel
theorem dJ6_bitCount_0f7a4_33 : decode cJ6_bitCount_0f7a4 33 = .ok (.istore_n 0, 1) := by decide +kernel
theorem dJ6_bitCount_0f7a4_34 : decode cJ6_bitCount_0f7a4 34 = .ok (.iload_n 0, 1) := by decide +kernel
theorem dJ6_bitCount_0f7a4_35 : decode cJ6_bitCount_0f7a4 35 = .ok (.iload_n 0, 1) := by decide +kernel
theorem dJ6_bitCount_0f7a4_36 : decode cJ6_bitCount_0f7a4 36 = .ok (.bipush 8, 2) := by decide +kernel
theorem dJ6_bitCount_0f7a4_38 : decode cJ6_bitCount_0f7a4 38 = .ok (.iushr, 1) := by decide +kernel
theorem dJ6_bitCount_0f7a4_39 : decode cJ6_bitCount_0f7a4 39 = .ok (.iadd, 1) := by decide +kernel
theorem dJ6_bitCount_0f7a4_40 : decode cJ6_bitCount_0f7a4 40 = .ok (.istore_n 0, 1) := by decide +kernel
theorem dJ6_bitCount_0f7a4_41 : decode cJ6_bitCount_0f7a4 41 = .ok (.iload_n 0, 1) := by decide +kernel
theorem dJ6_bitCount_0f7a4_42 : decode cJ6_bitCount_0f7a4 42 = .ok (.iload_n 0, 1) := by decide +kernel
theorem dJ6_bitCount_0f7a4_43 : decode cJ6_bitCount_0f7a4 43 = .ok (.bipush 16, 2) := by decide +kernel
theorem dJ6_bitCount_0f7a4_45 : decode cJ6_bitCount_0f7a4 45 = .ok (.iushr, 1) := by decide +kernel
theorem dJ6_bitCount_0f7a4_46 : decode cJ6_bitCount_0f7a4 46 = .ok (.iadd, 1) := by decide +kernel
theorem dJ6_bitCount_0f7a4_47 : decode cJ6_bitCount_0f7a4 47 = .ok (.istore_n 0, 1) := by decide +kernel
theorem dJ6_bitCount_0f7a4_48 : decode cJ6_bitCount_0f7a4 48 = .ok (.iload_n 0, 1) := by decide +kernel
theorem dJ6_bitCount_0f7a4_49 : decode cJ6_bitCount_0f7a4 49 = .ok (.bipush 63, 2) := by decide +kernel
theorem dJ6_bitCount_0f7a4_51 : decode cJ6_bitCount_0f7a4 51 = .ok (.iand, 1) := by decide +kernel
theorem dJ6_bitCount_0f7a4_52 : decode cJ6_bitCount_0f7a4 52 = .ok (.ireturn, 1) := by decide +kernel
theorem dJ6_stringSize_0f7a4_0 : decode cJ6_stringSize_0f7a4 0 = .ok (.iconst 1, 1) := by decide +kernel
theorem dJ6_stringSize_0f7a4_1 : decode cJ6_stringSize_0f7a4 1 = .ok (.istore_n 1, 1) := by decide +kernel
theorem dJ6_stringSize_0f7a4_2 : decode cJ6_stringSize_0f7a4 2 = .ok (.iload_n 0, 1) := by decide +kernel
theorem dJ6_stringSize_0f7a4_3 : decode cJ6_stringSize_0f7a4 3 = .ok (.ifCond .lt 8, 3) := by decide +kernel
theorem dJ6_stringSize_0f7a4_6 : decode cJ6_stringSize_0f7a4 6 = .ok (.iconst 0, 1) := by decide +kernel
theorem dJ6_stringSize_0f7a4_7 : decode cJ6_stringSize_0f7a4 7 = .ok (.istore_n 1, 1) := by decide +kernel
theorem dJ6_stringSize_0f7a4_8 : decode cJ6_stringSize_0f7a4 8 = .ok (.iload_n 0, 1) := by decide +kernel
theorem dJ6_stringSize_0f7a4_9 : decode cJ6_stringSize_0f7a4 9 = .ok (.ineg, 1) := by decide +kernel
theorem dJ6_stringSize_0f7a4_10 : decode cJ6_stringSize_0f7a4 10 = .ok (.istore_n 0, 1) := by decide +kernel
theorem dJ6_stringSize_0f7a4_11 : decode cJ6_stringSize_0f7a4 11 = .ok (.bipush (-10), 2) := by decide +kernel
theorem dJ6_stringSize_0f7a4_13 : decode cJ6_stringSize_0f7a4 13 = .ok (.istore_n 2, 1) := by decide +kernel
theorem dJ6_stringSize_0f7a4_14 : decode cJ6_stringSize_0f7a4 14 = .ok (.iconst 1, 1) := by decide +kernel
theorem dJ6_stringSize_0f7a4_15 : decode cJ6_stringSize_0f7a4 15 = .ok (.istore_n 3, 1) := by decide +kernel
theorem dJ6_stringSize_0f7a4_16 : decode cJ6_stringSize_0f7a4 16 = .ok (.iload_n 3, 1) := by decide +kernel
theorem dJ6_stringSize_0f7a4_17 : decode cJ6_stringSize_0f7a4 17 = .ok (.bipush 10, 2) := by decide +kernel
theorem dJ6_stringSize_0f7a4_19 : decode cJ6_stringSize_0f7a4 19 = .ok (.if_icmp .ge 23, 3) := by decide +kernel
theorem dJ6_stringSize_0f7a4_22 : decode cJ6_stringSize_0f7a4 22 = .ok (.iload_n 0, 1) := by decide +kernel
theorem dJ6_stringSize_0f7a4_23 : decode cJ6_stringSize_0f7a4 23 = .ok (.iload_n 2, 1) := by decide +kernel
theorem dJ6_stringSize_0f7a4_24 : decode cJ6_stringSize_0f7a4 24 = .ok (.if_icmp .le 7, 3) := by decide +kernel
theorem dJ6_stringSize_0f7a4_27 : decode cJ6_stringSize_0f7a4 27 = .ok (.iload_n 3, 1) := by decide +kernel
theorem dJ6_stringSize_0f7a4_28 : decode cJ6_stringSize_0f7a4 28 = .ok (.iload_n 1, 1) := by decide +kernel
theorem dJ6_stringSize_0f7a4_29 : decode cJ6_stringSize_0f7a4 29 = .ok (.iadd, 1) := by decide +kernel
theorem dJ6_stringSize_0f7a4_30 : decode cJ6_stringSize_0f7a4 30 = .ok (.ireturn, 1) := by decide +kernel
theorem dJ6_stringSize_0f7a4_31 : decode cJ6_stringSize_0f7a4 31 = .ok (.bipush 10, 2) := by decide +kernel
theorem dJ6_stringSize_0f7a4_33 : decode cJ6_stringSize_0f7a4 33 = .ok (.iload_n 2, 1) := by decide +kernel
theorem dJ6_stringSize_0f7a4_34 : decode cJ6_stringSize_0f7a4 34 = .ok (.imul, 1) := by decide +kernel
theorem dJ6_stringSize_0f7a4_35 : decode cJ6_stringSize_0f7a4 35 = .ok (.istore_n 2, 1) := by decide +kernel
theorem dJ6_stringSize_0f7a4_36 : decode cJ6_stringSize_0f7a4 36 = .ok (.iinc 3 1, 3) := by decide +kernel
theorem dJ6_stringSize_0f7a4_39 : decode cJ6_stringSize_0f7a4 39 = .ok (.goto (-23), 3) := by decide +kernel
theorem dJ6_stringSize_0f7a4_42 : decode cJ6_stringSize_0f7a4 42 = .ok (.bipush 10, 2) := by decide +kernel
theorem dJ6_stringSize_0f7a4_44 : decode cJ6_stringSize_0f7a4 44 = .ok (.iload_n 1, 1) := by decide +kernel
theorem dJ6_stringSize_0f7a4_45 : decode cJ6_stringSize_0f7a4 45 = .ok (.iadd, 1) := by decide +kernel
theorem dJ6_stringSize_0f7a4_46 : decode cJ6_stringSize_0f7a4 46 = .ok (.ireturn, 1) := by decide +kernel
theorem dJ1_canEncode_fc78d_0 : decode cJ1_canEncode_fc78d 0 = .ok (.iload_n 0, 1) := by decide +kernel
theorem dJ1_canEncode_fc78d_1 : decode cJ1_canEncode_fc78d 1 = .ok (.sipush 255, 3) := by decide +kernel
theorem dJ1_canEncode_fc78d_4 : decode cJ1_canEncode_fc78d 4 = .ok (.if_icmp .gt 7, 3) := by decide +kernel
theorem dJ1_canEncode_fc78d_7 : decode cJ1_canEncode_fc78d 7 = .ok (.iconst 1, 1) := by decide +kernel
theorem dJ1_canEncode_fc78d_8 : decode cJ1_canEncode_fc78d 8 = .ok (.goto 4, 3) := by decide +kernel
theorem dJ1_canEncode_fc78d_11 : decode cJ1_canEncode_fc78d 11 = .ok (.iconst 0, 1) := by decide +kernel
theorem dJ1_canEncode_fc78d_12 : decode cJ1_canEncode_fc78d 12 = .ok (.ireturn, 1) := by decide +kernel
theorem dJx29ce0_ordinal_8abf5_0 : decode cJx29ce0_ordinal_8abf5 0 = .ok (.aload_n 0, 1) := by decide +kernel
theorem dJx29ce0_ordinal_8abf5_1 : decode cJx29ce0_ordinal_8abf5 1 = .ok (.getfield 7, 3) := by decide +kernel
theorem dJx29ce0_ordinal_8abf5_4 : decode cJx29ce0_ordinal_8abf5 4 = .ok (.ireturn, 1) := by decide +kernel
def f_J0_coder_7d493 (μ : mu_T) (a0 : Int) : Option Int :=
  eq_ 1 0
      (some 1)
      (gd_ (0 ≤ a0 ∧ a0 < 21) (some 0))
set_option maxHeartbeats 4000000 in
set_option maxRecDepth 100000 in
theorem c_J0_coder_7d493 {G : gp_} {N : Nat} {ce : Nat → (Int → Int) → va_E} {ad : Nat → Nat} (μ : mu_T) (a0 : Int) (a : Int) (h : f_J0_coder_7d493 μ a0 = some a) : mi_ yJ0_coder_7d493 cJ0_coder_7d493 1 (some .byte) ({ frames := 0, cells := 0, slots := 0, locals := 0 } : Room) G N ad ce [.ref (G.2.1 (200 + (a0 : Int).toNat))] μ a μ := by
  refine mi_in (own := "java/lang/String") (lv := [(0, .ref (G.2.1 (200 + (a0 : Int).toNat)))]) (by decide) rfl rfl (Nat.le_of_ble_eq_true rfl) (fun X C E => ?_)
  unfold f_J0_coder_7d493 at h
  refine xx_gcs C 3 rfl w_901 dJ0_coder_7d493_0 ?_
  refine xx_if_eq (tgt := 13) C 6 rfl dJ0_coder_7d493_3 (by decide) h (fun h => ?_) (fun h => ?_)
  · refine xx_iconst C 14 rfl dJ0_coder_7d493_13 ?_
    exact xx_zretl C E rfl rfl ⟨Nat.le_of_ble_eq_true rfl, Nat.le_of_ble_eq_true rfl⟩ dJ0_coder_7d493_14 h
  · refine xx_aload_n C 7 rfl 0 dJ0_coder_7d493_6 rfl rfl ?_
    refine xx_strc C 10 rfl w_1603 dJ0_coder_7d493_7 h (fun h => ?_)
    refine xx_goto C 14 dJ0_coder_7d493_10 (by decide) ?_
    exact xx_zretl C E rfl rfl ⟨Nat.le_of_ble_eq_true rfl, Nat.le_of_ble_eq_true rfl⟩ dJ0_coder_7d493_14 h

def f_J0_length_8abf5 (μ : mu_T) (a0 : Int) : Option Int :=
  gd_ (0 ≤ a0 ∧ a0 < 21) (gd_ (0 ≤ a0 ∧ a0 < 21) (gd_ (0 ≤ a0 ∧ a0 < 21) (bd_ (f_J0_coder_7d493 μ a0) (fun v6 => some (sr_ (sn_ a0) v6)))))
set_option maxHeartbeats 4000000 in
set_option maxRecDepth 100000 in
theorem c_J0_length_8abf5 {G : gp_} {N : Nat} {ce : Nat → (Int → Int) → va_E} {ad : Nat → Nat} (μ : mu_T) (a0 : Int) (a : Int) (h : f_J0_length_8abf5 μ a0 = some a) : mi_ yJ0_length_8abf5 cJ0_length_8abf5 1 (some .int) ({ frames := 1, cells := 0, slots := 0, locals := 20 } : Room) G N ad ce [.ref (G.2.1 (200 + (a0 : Int).toNat))] μ a μ := by
  refine mi_in (own := "java/lang/String") (lv := [(0, .ref (G.2.1 (200 + (a0 : Int).toNat)))]) (by decide) rfl rfl (Nat.le_of_ble_eq_true rfl) (fun X C E => ?_)
  unfold f_J0_length_8abf5 at h
  refine xx_aload_n C 1 rfl 0 dJ0_length_8abf5_0 rfl rfl ?_
  refine xx_strv C 4 rfl w_1602 dJ0_length_8abf5_1 h (fun h => ?_)
  refine xx_svlen C 5 rfl dJ0_length_8abf5_4 h (fun h => ?_)
  refine xx_aload_n C 6 rfl 0 dJ0_length_8abf5_5 rfl rfl ?_
  refine xx_cKip (As := []) (st := [.int (iI (sn_ a0))]) (z := a0) C 9 rfl rfl ca_J0_coder_7d493 cv_J0_coder_7d493 w_897 rfl ⟨Nat.le_of_ble_eq_true rfl, Nat.le_of_ble_eq_true rfl⟩ ⟨Nat.le_of_ble_eq_true rfl, Nat.le_of_ble_eq_true rfl⟩ (Nat.le_of_ble_eq_true rfl) dJ0_length_8abf5_6 (fun v6 e9 => c_J0_coder_7d493 _ _ v6 e9) h (fun v6 h => ?_) rfl
  refine xx_ishr C 10 rfl dJ0_length_8abf5_9 ?_
  exact xx_iretp C E rfl ⟨Nat.le_of_ble_eq_true rfl, Nat.le_of_ble_eq_true rfl⟩ dJ0_length_8abf5_10 h

def f_J0_isLatin1_aae02 (μ : mu_T) (a0 : Int) : Option Int :=
  eq_ 1 0
      (some 0)
      (gd_ (0 ≤ a0 ∧ a0 < 21) (eq_ 0 0
      (some 1)
      (some 0)))
set_option maxHeartbeats 4000000 in
set_option maxRecDepth 100000 in
theorem c_J0_isLatin1_aae02 {G : gp_} {N : Nat} {ce : Nat → (Int → Int) → va_E} {ad : Nat → Nat} (μ : mu_T) (a0 : Int) (a : Int) (h : f_J0_isLatin1_aae02 μ a0 = some a) : mi_ yJ0_isLatin1_aae02 cJ0_isLatin1_aae02 1 (some .boolean) ({ frames := 0, cells := 0, slots := 0, locals := 0 } : Room) G N ad ce [.ref (G.2.1 (200 + (a0 : Int).toNat))] μ a μ := by
  refine mi_in (own := "java/lang/String") (lv := [(0, .ref (G.2.1 (200 + (a0 : Int).toNat)))]) (by decide) rfl rfl (Nat.le_of_ble_eq_true rfl) (fun X C E => ?_)
  unfold f_J0_isLatin1_aae02 at h
  refine xx_gcs C 3 rfl w_901 dJ0_isLatin1_aae02_0 ?_
  refine xx_if_eq (tgt := 17) C 6 rfl dJ0_isLatin1_aae02_3 (by decide) h (fun h => ?_) (fun h => ?_)
  · refine xx_iconst C 18 rfl dJ0_isLatin1_aae02_17 ?_
    exact xx_zretl C E rfl rfl ⟨Nat.le_of_ble_eq_true rfl, Nat.le_of_ble_eq_true rfl⟩ dJ0_isLatin1_aae02_18 h
  · refine xx_aload_n C 7 rfl 0 dJ0_isLatin1_aae02_6 rfl rfl ?_
    refine xx_strc C 10 rfl w_1603 dJ0_isLatin1_aae02_7 h (fun h => ?_)
    refine xx_if_ne (tgt := 17) C 13 rfl dJ0_isLatin1_aae02_10 (by decide) h (fun h => ?_) (fun h => ?_)
    · refine xx_iconst C 18 rfl dJ0_isLatin1_aae02_17 ?_
      exact xx_zretl C E rfl rfl ⟨Nat.le_of_ble_eq_true rfl, Nat.le_of_ble_eq_true rfl⟩ dJ0_isLatin1_aae02_18 h
    · refine xx_iconst C 14 rfl dJ0_isLatin1_aae02_13 ?_
      refine xx_goto C 18 dJ0_isLatin1_aae02_14 (by decide) ?_
      exact xx_zretl C E rfl rfl ⟨Nat.le_of_ble_eq_true rfl, Nat.le_of_ble_eq_true rfl⟩ dJ0_isLatin1_aae02_18 h

def f_J3_checkIndex_8e157 (μ : mu_T) (a0 : Int) (a1 : Int) : Option Int :=
  lt_ a0 0
      (none)
      (lt_ a0 a1
      (some a0)
      (none))
set_option maxHeartbeats 4000000 in
set_option maxRecDepth 100000 in
theorem c_J3_checkIndex_8e157 {G : gp_} {N : Nat} {ce : Nat → (Int → Int) → va_E} {ad : Nat → Nat} (μ : mu_T) (a0 : Int) (a1 : Int) (a : Int) (h : f_J3_checkIndex_8e157 μ a0 a1 = some a) : mi_ yJ3_checkIndex_8e157 cJ3_checkIndex_8e157 3 (some .int) ({ frames := 0, cells := 0, slots := 0, locals := 0 } : Room) G N ad ce [.int (iI a0), .int (iI a1), .ref (G.2.1 5)] μ a μ := by
  refine mi_in (own := "jdk/internal/util/Preconditions") (lv := [(0, .int (iI a0)), (1, .int (iI a1)), (2, .ref (G.2.1 5))]) (by decide) rfl rfl (Nat.le_of_ble_eq_true rfl) (fun X C E => ?_)
  unfold f_J3_checkIndex_8e157 at h
  refine xx_iload_n C 1 rfl 0 dJ3_checkIndex_8e157_0 rfl rfl ?_
  refine xx_if_lt (tgt := 9) C 4 rfl dJ3_checkIndex_8e157_1 (by decide) h (fun h => ?_) (fun h => ?_)
  · exact nn_ h
  · refine xx_iload_n C 5 rfl 0 dJ3_checkIndex_8e157_4 rfl rfl ?_
    refine xx_iload_n C 6 rfl 1 dJ3_checkIndex_8e157_5 rfl rfl ?_
    refine xx_icmp_lt (tgt := 16) C 9 rfl dJ3_checkIndex_8e157_6 (by decide) h (fun h => ?_) (fun h => ?_)
    · refine xx_iload_n C 17 rfl 0 dJ3_checkIndex_8e157_16 rfl rfl ?_
      exact xx_iretp C E rfl ⟨Nat.le_of_ble_eq_true rfl, Nat.le_of_ble_eq_true rfl⟩ dJ3_checkIndex_8e157_17 h
    · exact nn_ h

def f_J0_checkIndex_df160 (μ : mu_T) (a0 : Int) (a1 : Int) : Option Unit :=
  bd_ (f_J3_checkIndex_8e157 μ a0 a1) (fun v5 => some ())
set_option maxHeartbeats 4000000 in
set_option maxRecDepth 100000 in
theorem c_J0_checkIndex_df160 {G : gp_} {N : Nat} {ce : Nat → (Int → Int) → va_E} {ad : Nat → Nat} (μ : mu_T) (a0 : Int) (a1 : Int) (u9 : Unit) (h : f_J0_checkIndex_df160 μ a0 a1 = some u9) : mv_ yJ0_checkIndex_df160 cJ0_checkIndex_df160 2 ({ frames := 1, cells := 0, slots := 0, locals := 22 } : Room) G N ad ce [.int (iI a0), .int (iI a1)] μ μ := by
  refine mv_in (own := "java/lang/String") (lv := [(0, .int (iI a0)), (1, .int (iI a1))]) (by decide) rfl rfl (Nat.le_of_ble_eq_true rfl) (fun X C E => ?_)
  unfold f_J0_checkIndex_df160 at h
  refine xx_iload_n C 1 rfl 0 dJ0_checkIndex_df160_0 rfl rfl ?_
  refine xx_iload_n C 2 rfl 1 dJ0_checkIndex_df160_1 rfl rfl ?_
  refine xx_gsf C 5 rfl w_849 dJ0_checkIndex_df160_2 ?_
  refine xx_cSip (As := [.int (iI a0), .int (iI a1), .ref (G.2.1 5)]) (st := []) C 8 rfl  ca_J3_checkIndex_8e157 cs_J3_checkIndex_8e157 w_872 rfl ⟨Nat.le_of_ble_eq_true rfl, Nat.le_of_ble_eq_true rfl⟩ ⟨Nat.le_of_ble_eq_true rfl, Nat.le_of_ble_eq_true rfl⟩ (Nat.le_of_ble_eq_true rfl) dJ0_checkIndex_df160_5 (fun v5 e9 => c_J3_checkIndex_8e157 _ _ _ v5 e9) h (fun v5 h => ?_) rfl
  refine xx_pop C 9 rfl dJ0_checkIndex_df160_8 rfl ?_
  exact xx_vretp C E rfl ⟨Nat.le_of_ble_eq_true rfl, Nat.le_of_ble_eq_true rfl⟩ dJ0_checkIndex_df160_9 h

def f_J1_charAt_3b067 (μ : mu_T) (a0 : Int) (a1 : Int) : Option Int :=
  gd_ (0 ≤ a0 ∧ a0 < 21) (bd_ (f_J0_checkIndex_df160 μ a1 (sn_ a0)) (fun u3 => rs_ a0 a1 (fun v8 => rc_ (i2c_ (an_ v8 255)))))
set_option maxHeartbeats 4000000 in
set_option maxRecDepth 100000 in
theorem c_J1_charAt_3b067 {G : gp_} {N : Nat} {ce : Nat → (Int → Int) → va_E} {ad : Nat → Nat} (μ : mu_T) (a0 : Int) (a1 : Int) (a : Int) (h : f_J1_charAt_3b067 μ a0 a1 = some a) : mi_ yJ1_charAt_3b067 cJ1_charAt_3b067 2 (some .char) ({ frames := 2, cells := 0, slots := 0, locals := 43 } : Room) G N ad ce [.ref (G.2.1 (300 + (a0 : Int).toNat)), .int (iI a1)] μ a μ := by
  refine mi_in (own := "java/lang/StringLatin1") (lv := [(0, .ref (G.2.1 (300 + (a0 : Int).toNat))), (1, .int (iI a1))]) (by decide) rfl rfl (Nat.le_of_ble_eq_true rfl) (fun X C E => ?_)
  unfold f_J1_charAt_3b067 at h
  refine xx_iload_n C 1 rfl 1 dJ1_charAt_3b067_0 rfl rfl ?_
  refine xx_aload_n C 2 rfl 0 dJ1_charAt_3b067_1 rfl rfl ?_
  refine xx_svlen C 3 rfl dJ1_charAt_3b067_2 h (fun h => ?_)
  refine xx_cSvp (As := [.int (iI a1), .int (iI (sn_ a0))]) (st := []) C 6 rfl  ca_J0_checkIndex_df160 cs_J0_checkIndex_df160 w_913 rfl ⟨Nat.le_of_ble_eq_true rfl, Nat.le_of_ble_eq_true rfl⟩ ⟨Nat.le_of_ble_eq_true rfl, Nat.le_of_ble_eq_true rfl⟩ (Nat.le_of_ble_eq_true rfl) dJ1_charAt_3b067_3 (fun u3 e9 => c_J0_checkIndex_df160 _ _ _ u3 e9) h (fun u3 h => ?_) rfl
  refine xx_aload_n C 7 rfl 0 dJ1_charAt_3b067_6 rfl rfl ?_
  refine xx_iload_n C 8 rfl 1 dJ1_charAt_3b067_7 rfl rfl ?_
  refine xx_svld C 9 rfl dJ1_charAt_3b067_8 h (fun v8 h => ?_)
  refine xx_sipush C 12 rfl dJ1_charAt_3b067_9 (by decide) ?_
  refine xx_iand C 13 rfl dJ1_charAt_3b067_12 ?_
  refine xx_i2c C 14 rfl dJ1_charAt_3b067_13 ?_
  exact xx_cretp C E rfl ⟨Nat.le_of_ble_eq_true rfl, Nat.le_of_ble_eq_true rfl⟩ dJ1_charAt_3b067_14 h

def f_J0_charAt_5068e (μ : mu_T) (a0 : Int) (a1 : Int) : Option Int :=
  gd_ (0 ≤ a0 ∧ a0 < 21) (bd_ (f_J0_isLatin1_aae02 μ a0) (fun v1 => eq_ v1 0
      (gd_ (0 ≤ a0 ∧ a0 < 21) (none))
      (gd_ (0 ≤ a0 ∧ a0 < 21) (bd_ (f_J1_charAt_3b067 μ a0 a1) (fun v12 => rc_ v12)))))
set_option maxHeartbeats 4000000 in
set_option maxRecDepth 100000 in
theorem c_J0_charAt_5068e {G : gp_} {N : Nat} {ce : Nat → (Int → Int) → va_E} {ad : Nat → Nat} (μ : mu_T) (a0 : Int) (a1 : Int) (a : Int) (h : f_J0_charAt_5068e μ a0 a1 = some a) : mi_ yJ0_charAt_5068e cJ0_charAt_5068e 2 (some .char) ({ frames := 3, cells := 0, slots := 0, locals := 64 } : Room) G N ad ce [.ref (G.2.1 (200 + (a0 : Int).toNat)), .int (iI a1)] μ a μ := by
  refine mi_in (own := "java/lang/String") (lv := [(0, .ref (G.2.1 (200 + (a0 : Int).toNat))), (1, .int (iI a1))]) (by decide) rfl rfl (Nat.le_of_ble_eq_true rfl) (fun X C E => ?_)
  unfold f_J0_charAt_5068e at h
  refine xx_aload_n C 1 rfl 0 dJ0_charAt_5068e_0 rfl rfl ?_
  refine xx_cKip (As := []) (st := []) (z := a0) C 4 rfl rfl ca_J0_isLatin1_aae02 cv_J0_isLatin1_aae02 w_906 rfl ⟨Nat.le_of_ble_eq_true rfl, Nat.le_of_ble_eq_true rfl⟩ ⟨Nat.le_of_ble_eq_true rfl, Nat.le_of_ble_eq_true rfl⟩ (Nat.le_of_ble_eq_true rfl) dJ0_charAt_5068e_1 (fun v1 e9 => c_J0_isLatin1_aae02 _ _ v1 e9) h (fun v1 h => ?_) rfl
  refine xx_if_eq (tgt := 16) C 7 rfl dJ0_charAt_5068e_4 (by decide) h (fun h => ?_) (fun h => ?_)
  · refine xx_aload_n C 17 rfl 0 dJ0_charAt_5068e_16 rfl rfl ?_
    refine xx_strv C 20 rfl w_1602 dJ0_charAt_5068e_17 h (fun h => ?_)
    refine xx_iload_n C 21 rfl 1 dJ0_charAt_5068e_20 rfl rfl ?_
    exact nn_ h
  · refine xx_aload_n C 8 rfl 0 dJ0_charAt_5068e_7 rfl rfl ?_
    refine xx_strv C 11 rfl w_1602 dJ0_charAt_5068e_8 h (fun h => ?_)
    refine xx_iload_n C 12 rfl 1 dJ0_charAt_5068e_11 rfl rfl ?_
    refine xx_cSip (As := [.ref (G.2.1 (300 + (a0 : Int).toNat)), .int (iI a1)]) (st := []) C 15 rfl  ca_J1_charAt_3b067 cs_J1_charAt_3b067 w_910 rfl ⟨Nat.le_of_ble_eq_true rfl, Nat.le_of_ble_eq_true rfl⟩ ⟨Nat.le_of_ble_eq_true rfl, Nat.le_of_ble_eq_true rfl⟩ (Nat.le_of_ble_eq_true rfl) dJ0_charAt_5068e_12 (fun v12 e9 => c_J1_charAt_3b067 _ _ _ v12 e9) h (fun v12 h => ?_) rfl
    exact xx_cretp C E rfl ⟨Nat.le_of_ble_eq_true rfl, Nat.le_of_ble_eq_true rfl⟩ dJ0_charAt_5068e_15 h

def f_J6_bitCount_0f7a4 (μ : mu_T) (a0 : Int) : Option Int :=
  nm_ ((a0 - (an_ (su_ a0 1) 1431655765))) (fun n9 => nm_ (((an_ n9 858993459) + (an_ (su_ n9 2) 858993459))) (fun n23 => nm_ ((an_ (n23 + (su_ n23 4)) 252645135)) (fun n33 => nm_ ((n33 + (su_ n33 8))) (fun n40 => nm_ ((n40 + (su_ n40 16))) (fun n47 => some (an_ n47 63))))))
set_option maxHeartbeats 4000000 in
set_option maxRecDepth 100000 in
theorem c_J6_bitCount_0f7a4 {G : gp_} {N : Nat} {ce : Nat → (Int → Int) → va_E} {ad : Nat → Nat} (μ : mu_T) (a0 : Int) (a : Int) (h : f_J6_bitCount_0f7a4 μ a0 = some a) : mi_ yJ6_bitCount_0f7a4 cJ6_bitCount_0f7a4 1 (some .int) ({ frames := 0, cells := 0, slots := 0, locals := 0 } : Room) G N ad ce [.int (iI a0)] μ a μ := by
  refine mi_in (own := "java/lang/Integer") (lv := [(0, .int (iI a0))]) (by decide) rfl rfl (Nat.le_of_ble_eq_true rfl) (fun X C E => ?_)
  unfold f_J6_bitCount_0f7a4 at h
  refine xx_iload_n C 1 rfl 0 dJ6_bitCount_0f7a4_0 rfl rfl ?_
  refine xx_iload_n C 2 rfl 0 dJ6_bitCount_0f7a4_1 rfl rfl ?_
  refine xx_iconst C 3 rfl dJ6_bitCount_0f7a4_2 ?_
  refine xx_iushr C 4 rfl dJ6_bitCount_0f7a4_3 ?_
  refine xx_ldcwi C 7 rfl (v := 1431655765) w_1129 dJ6_bitCount_0f7a4_4 ?_
  refine xx_iand C 8 rfl dJ6_bitCount_0f7a4_7 ?_
  refine xx_isub C 9 rfl dJ6_bitCount_0f7a4_8 ?_
  refine xx_nm C h (fun n9 h => ?_)
  refine xx_istore_n (lv1 := [(0, .int (iI n9))]) C 10 rfl (by decide) dJ6_bitCount_0f7a4_9 rfl rfl ?_
  refine xx_iload_n C 11 rfl 0 dJ6_bitCount_0f7a4_10 rfl rfl ?_
  refine xx_ldcwi C 14 rfl (v := 858993459) w_1130 dJ6_bitCount_0f7a4_11 ?_
  refine xx_iand C 15 rfl dJ6_bitCount_0f7a4_14 ?_
  refine xx_iload_n C 16 rfl 0 dJ6_bitCount_0f7a4_15 rfl rfl ?_
  refine xx_iconst C 17 rfl dJ6_bitCount_0f7a4_16 ?_
  refine xx_iushr C 18 rfl dJ6_bitCount_0f7a4_17 ?_
  refine xx_ldcwi C 21 rfl (v := 858993459) w_1130 dJ6_bitCount_0f7a4_18 ?_
  refine xx_iand C 22 rfl dJ6_bitCount_0f7a4_21 ?_
  refine xx_iadd C 23 rfl dJ6_bitCount_0f7a4_22 ?_
  refine xx_nm C h (fun n23 h => ?_)
  refine xx_istore_n (lv1 := [(0, .int (iI n23))]) C 24 rfl (by decide) dJ6_bitCount_0f7a4_23 rfl rfl ?_
  refine xx_iload_n C 25 rfl 0 dJ6_bitCount_0f7a4_24 rfl rfl ?_
  refine xx_iload_n C 26 rfl 0 dJ6_bitCount_0f7a4_25 rfl rfl ?_
  refine xx_iconst C 27 rfl dJ6_bitCount_0f7a4_26 ?_
  refine xx_iushr C 28 rfl dJ6_bitCount_0f7a4_27 ?_
  refine xx_iadd C 29 rfl dJ6_bitCount_0f7a4_28 ?_
  refine xx_ldcwi C 32 rfl (v := 252645135) w_1131 dJ6_bitCount_0f7a4_29 ?_
  refine xx_iand C 33 rfl dJ6_bitCount_0f7a4_32 ?_
  refine xx_nm C h (fun n33 h => ?_)
  refine xx_istore_n (lv1 := [(0, .int (iI n33))]) C 34 rfl (by decide) dJ6_bitCount_0f7a4_33 rfl rfl ?_
  refine xx_iload_n C 35 rfl 0 dJ6_bitCount_0f7a4_34 rfl rfl ?_
  refine xx_iload_n C 36 rfl 0 dJ6_bitCount_0f7a4_35 rfl rfl ?_
  refine xx_bipush C 38 rfl dJ6_bitCount_0f7a4_36 (by decide) ?_
  refine xx_iushr C 39 rfl dJ6_bitCount_0f7a4_38 ?_
  refine xx_iadd C 40 rfl dJ6_bitCount_0f7a4_39 ?_
  refine xx_nm C h (fun n40 h => ?_)
  refine xx_istore_n (lv1 := [(0, .int (iI n40))]) C 41 rfl (by decide) dJ6_bitCount_0f7a4_40 rfl rfl ?_
  refine xx_iload_n C 42 rfl 0 dJ6_bitCount_0f7a4_41 rfl rfl ?_
  refine xx_iload_n C 43 rfl 0 dJ6_bitCount_0f7a4_42 rfl rfl ?_
  refine xx_bipush C 45 rfl dJ6_bitCount_0f7a4_43 (by decide) ?_
  refine xx_iushr C 46 rfl dJ6_bitCount_0f7a4_45 ?_
  refine xx_iadd C 47 rfl dJ6_bitCount_0f7a4_46 ?_
  refine xx_nm C h (fun n47 h => ?_)
  refine xx_istore_n (lv1 := [(0, .int (iI n47))]) C 48 rfl (by decide) dJ6_bitCount_0f7a4_47 rfl rfl ?_
  refine xx_iload_n C 49 rfl 0 dJ6_bitCount_0f7a4_48 rfl rfl ?_
  refine xx_bipush C 51 rfl dJ6_bitCount_0f7a4_49 (by decide) ?_
  refine xx_iand C 52 rfl dJ6_bitCount_0f7a4_51 ?_
  exact xx_iretp C E rfl ⟨Nat.le_of_ble_eq_true rfl, Nat.le_of_ble_eq_true rfl⟩ dJ6_bitCount_0f7a4_52 h

def f_J6_stringSize_0f7a4_L16 (J27 : Int → Option Int) (J42 : Unit → Option Int) (x0_11 : Int) : Nat → Int → Int → Option Int
  | 0, _, _ => none
  | fu16 + 1, x2_16, x3_16 => lt_ x3_16 10
      (lt_ x2_16 x0_11
      (J27 x3_16)
      (nm_ ((10 * x2_16)) (fun n35 => nm_ (x3_16 + 1) (fun n36 => (f_J6_stringSize_0f7a4_L16 J27 J42 x0_11 fu16) n35 n36))))
      (J42 ())
def f_J6_stringSize_0f7a4 (μ : mu_T) (a0 : Int) : Option Int :=
  jn_ (φ := Int → Int → Option Int) (fun x0_11 x1_11 => jn_ (φ := Unit → Option Int) (fun _ => some (10 + x1_11))
      (fun J42 => jn_ (φ := Int → Option Int) (fun x3_27 => some (x3_27 + x1_11))
      (fun J27 => f_J6_stringSize_0f7a4_L16 J27 J42 x0_11 20000 (-10) 1)))
      (fun J11 => lt_ a0 0
      (J11 a0 1)
      (nm_ ((-a0)) (fun n10 => J11 n10 0)))
set_option maxHeartbeats 4000000 in
set_option maxRecDepth 100000 in
theorem c_J6_stringSize_0f7a4 {G : gp_} {N : Nat} {ce : Nat → (Int → Int) → va_E} {ad : Nat → Nat} (μ : mu_T) (a0 : Int) (a : Int) (h : f_J6_stringSize_0f7a4 μ a0 = some a) : mi_ yJ6_stringSize_0f7a4 cJ6_stringSize_0f7a4 4 (some .int) ({ frames := 0, cells := 0, slots := 0, locals := 0 } : Room) G N ad ce [.int (iI a0)] μ a μ := by
  refine mi_in (own := "java/lang/Integer") (lv := [(0, .int (iI a0))]) (by decide) rfl rfl (Nat.le_of_ble_eq_true rfl) (fun X C E => ?_)
  unfold f_J6_stringSize_0f7a4 at h
  refine xx_iconst C 1 rfl dJ6_stringSize_0f7a4_0 ?_
  refine xx_istore_n (lv1 := [(1, .int (iI 1)), (0, .int (iI a0))]) C 2 rfl (by decide) dJ6_stringSize_0f7a4_1 rfl rfl ?_
  refine xx_iload_n C 3 rfl 1 dJ6_stringSize_0f7a4_2 rfl rfl ?_
  refine jn_r (fun J => ∀ (x0_11 : Int) (x1_11 : Int), J x0_11 x1_11 = some a → wx_ G X N ad ce μ 0 0 11 [(0, .int (iI x0_11)), (1, .int (iI x1_11))] []) h (fun x0_11 x1_11 h => ?_) (fun J11 K11 h => ?_)
  · refine xx_bipush C 13 rfl dJ6_stringSize_0f7a4_11 (by decide) ?_
    refine xx_istore_n (lv1 := [(2, .int (iI (-10))), (0, .int (iI x0_11)), (1, .int (iI x1_11))]) C 14 rfl (by decide) dJ6_stringSize_0f7a4_13 rfl rfl ?_
    refine xx_iconst C 15 rfl dJ6_stringSize_0f7a4_14 ?_
    refine xx_istore_n (lv1 := [(3, .int (iI 1)), (2, .int (iI (-10))), (0, .int (iI x0_11)), (1, .int (iI x1_11))]) C 16 rfl (by decide) dJ6_stringSize_0f7a4_15 rfl rfl ?_
    refine jn_r (fun J => ∀ (_u : Unit), J _u = some a → wx_ G X N ad ce μ 0 0 42 [(1, .int (iI x1_11))] []) h (fun _ h => ?_) (fun J42 K42 h => ?_)
    · refine xx_bipush C 44 rfl dJ6_stringSize_0f7a4_42 (by decide) ?_
      refine xx_iload_n C 45 rfl 0 dJ6_stringSize_0f7a4_44 rfl rfl ?_
      refine xx_iadd C 46 rfl dJ6_stringSize_0f7a4_45 ?_
      exact xx_iretp C E rfl ⟨Nat.le_of_ble_eq_true rfl, Nat.le_of_ble_eq_true rfl⟩ dJ6_stringSize_0f7a4_46 h
    · refine jn_r (fun J => ∀ (x3_27 : Int), J x3_27 = some a → wx_ G X N ad ce μ 0 0 27 [(1, .int (iI x1_11)), (3, .int (iI x3_27))] []) h (fun x3_27 h => ?_) (fun J27 K27 h => ?_)
      · refine xx_iload_n C 28 rfl 1 dJ6_stringSize_0f7a4_27 rfl rfl ?_
        refine xx_iload_n C 29 rfl 0 dJ6_stringSize_0f7a4_28 rfl rfl ?_
        refine xx_iadd C 30 rfl dJ6_stringSize_0f7a4_29 ?_
        exact xx_iretp C E rfl ⟨Nat.le_of_ble_eq_true rfl, Nat.le_of_ble_eq_true rfl⟩ dJ6_stringSize_0f7a4_30 h
      · have L16 : ∀ (fu16 : Nat) (x2_16 : Int) (x3_16 : Int), f_J6_stringSize_0f7a4_L16 J27 J42 x0_11 fu16 x2_16 x3_16 = some a → wx_ G X N ad ce μ 0 0 16 [(0, .int (iI x0_11)), (1, .int (iI x1_11)), (2, .int (iI x2_16)), (3, .int (iI x3_16))] [] := by
          intro fu16
          induction fu16 with
          | zero => intro x2_16 x3_16 h; exact nn_ h
          | succ fu16 K16 =>
            intro x2_16 x3_16 h
            rw [f_J6_stringSize_0f7a4_L16] at h
            generalize f_J6_stringSize_0f7a4_L16 J27 J42 x0_11 fu16 = R16 at K16 h
            refine xx_iload_n C 17 rfl 3 dJ6_stringSize_0f7a4_16 rfl rfl ?_
            refine xx_bipush C 19 rfl dJ6_stringSize_0f7a4_17 (by decide) ?_
            refine xx_icmp_ge (tgt := 42) C 22 rfl dJ6_stringSize_0f7a4_19 (by decide) h (fun h => ?_) (fun h => ?_)
            · refine xx_sub [1] rfl ?_
              exact K42 () h
            · refine xx_iload_n C 23 rfl 0 dJ6_stringSize_0f7a4_22 rfl rfl ?_
              refine xx_iload_n C 24 rfl 2 dJ6_stringSize_0f7a4_23 rfl rfl ?_
              refine xx_icmp_le (tgt := 31) C 27 rfl dJ6_stringSize_0f7a4_24 (by decide) h (fun h => ?_) (fun h => ?_)
              · refine xx_bipush C 33 rfl dJ6_stringSize_0f7a4_31 (by decide) ?_
                refine xx_iload_n C 34 rfl 2 dJ6_stringSize_0f7a4_33 rfl rfl ?_
                refine xx_imul C 35 rfl dJ6_stringSize_0f7a4_34 ?_
                refine xx_nm C h (fun n35 h => ?_)
                refine xx_istore_n (lv1 := [(2, .int (iI n35)), (0, .int (iI x0_11)), (1, .int (iI x1_11)), (3, .int (iI x3_16))]) C 36 rfl (by decide) dJ6_stringSize_0f7a4_35 rfl rfl ?_
                refine xx_iincn C 39 rfl 3 (by decide) dJ6_stringSize_0f7a4_36 rfl h (fun n36 h => ?_)
                refine xx_lv (lv1 := [(3, .int (iI n36)), (2, .int (iI n35)), (0, .int (iI x0_11)), (1, .int (iI x1_11))]) rfl ?_
                refine xx_goto C 16 dJ6_stringSize_0f7a4_39 (by decide) ?_
                refine xx_sub [2, 3, 1, 0] rfl ?_
                exact K16 n35 n36 h
              · refine xx_sub [1, 3] rfl ?_
                exact K27 x3_16 h
        refine xx_sub [2, 3, 1, 0] rfl ?_
        exact L16 _ _ _ h
  · refine xx_if_lt (tgt := 11) C 6 rfl dJ6_stringSize_0f7a4_3 (by decide) h (fun h => ?_) (fun h => ?_)
    · refine xx_sub [1, 0] rfl ?_
      exact K11 a0 1 h
    · refine xx_iconst C 7 rfl dJ6_stringSize_0f7a4_6 ?_
      refine xx_istore_n (lv1 := [(1, .int (iI 0)), (0, .int (iI a0))]) C 8 rfl (by decide) dJ6_stringSize_0f7a4_7 rfl rfl ?_
      refine xx_iload_n C 9 rfl 1 dJ6_stringSize_0f7a4_8 rfl rfl ?_
      refine xx_ineg C 10 rfl dJ6_stringSize_0f7a4_9 ?_
      refine xx_nm C h (fun n10 h => ?_)
      refine xx_istore_n (lv1 := [(0, .int (iI n10)), (1, .int (iI 0))]) C 11 rfl (by decide) dJ6_stringSize_0f7a4_10 rfl rfl ?_
      exact K11 n10 0 h

def f_J1_canEncode_fc78d (μ : mu_T) (a0 : Int) : Option Int :=
  lt_ 255 a0
      (some 0)
      (some 1)
set_option maxHeartbeats 4000000 in
set_option maxRecDepth 100000 in
theorem c_J1_canEncode_fc78d {G : gp_} {N : Nat} {ce : Nat → (Int → Int) → va_E} {ad : Nat → Nat} (μ : mu_T) (a0 : Int) (a : Int) (h : f_J1_canEncode_fc78d μ a0 = some a) : mi_ yJ1_canEncode_fc78d cJ1_canEncode_fc78d 1 (some .boolean) ({ frames := 0, cells := 0, slots := 0, locals := 0 } : Room) G N ad ce [.int (iI a0)] μ a μ := by
  refine mi_in (own := "java/lang/StringLatin1") (lv := [(0, .int (iI a0))]) (by decide) rfl rfl (Nat.le_of_ble_eq_true rfl) (fun X C E => ?_)
  unfold f_J1_canEncode_fc78d at h
  refine xx_iload_n C 1 rfl 0 dJ1_canEncode_fc78d_0 rfl rfl ?_
  refine xx_sipush C 4 rfl dJ1_canEncode_fc78d_1 (by decide) ?_
  refine xx_icmp_gt (tgt := 11) C 7 rfl dJ1_canEncode_fc78d_4 (by decide) h (fun h => ?_) (fun h => ?_)
  · refine xx_iconst C 12 rfl dJ1_canEncode_fc78d_11 ?_
    exact xx_zretl C E rfl rfl ⟨Nat.le_of_ble_eq_true rfl, Nat.le_of_ble_eq_true rfl⟩ dJ1_canEncode_fc78d_12 h
  · refine xx_iconst C 8 rfl dJ1_canEncode_fc78d_7 ?_
    refine xx_goto C 12 dJ1_canEncode_fc78d_8 (by decide) ?_
    exact xx_zretl C E rfl rfl ⟨Nat.le_of_ble_eq_true rfl, Nat.le_of_ble_eq_true rfl⟩ dJ1_canEncode_fc78d_12 h

def f_Jx29ce0_ordinal_8abf5 (μ : mu_T) (a0 : Int) : Option Int :=
  gd_ (0 ≤ a0 ∧ a0 < 10) (some a0)
set_option maxHeartbeats 4000000 in
set_option maxRecDepth 100000 in
theorem c_Jx29ce0_ordinal_8abf5 {G : gp_} {N : Nat} {ce : Nat → (Int → Int) → va_E} {ad : Nat → Nat} (μ : mu_T) (a0 : Int) (a : Int) (h : f_Jx29ce0_ordinal_8abf5 μ a0 = some a) : mi_ yJx29ce0_ordinal_8abf5 cJx29ce0_ordinal_8abf5 1 (some .int) ({ frames := 0, cells := 0, slots := 0, locals := 0 } : Room) G N ad ce [.ref (G.2.1 (100 + (a0 : Int).toNat))] μ a μ := by
  refine mi_in (own := "java/lang/Enum") (lv := [(0, .ref (G.2.1 (100 + (a0 : Int).toNat)))]) (by decide) rfl rfl (Nat.le_of_ble_eq_true rfl) (fun X C E => ?_)
  unfold f_Jx29ce0_ordinal_8abf5 at h
  refine xx_aload_n C 1 rfl 0 dJx29ce0_ordinal_8abf5_0 rfl rfl ?_
  refine xx_ord C 4 rfl w_1604 dJx29ce0_ordinal_8abf5_1 h (fun h => ?_)
  exact xx_iretp C E rfl ⟨Nat.le_of_ble_eq_true rfl, Nat.le_of_ble_eq_true rfl⟩ dJx29ce0_ordinal_8abf5_4 h
end
section
/-! the program: its cells, its pure functions, their contracts (written by wip/gen/xgen.py) -/
def ceH (G : gp_) (ad : Nat → Nat) (i j : Nat) (row : Int → Int) : va_E := match j with
  | 0 => .inr (2, [.ref (ad (12 * i + 1)), .ref (ad (12 * i + 2)), .ref (ad (12 * i + 3)), .ref (ad (12 * i + 4)), .ref (ad (12 * i + 5)), .ref (ad (12 * i + 6)), .ref (ad (12 * i + 7)), .ref (ad (12 * i + 8)), .ref (ad (12 * i + 10)), .int (iI (row 9)), .int (iI (row 10)), .int (iI (row 11)), .int (iI (row 12)), .int (iI (row 13)), .int (iI (row 14)), .int (iI (row 15)), .int (iI (row 16))])
  | 1 => .inl (G.1.1 100, 96, .inl (fun j => iI (row (j : Nat))))
  | 2 => .inl (G.1.1 100, 24, .inl (fun j => iI (row (j : Nat))))
  | 3 => .inl (G.1.1 100, 24, .inl (fun j => iI (row (j : Nat))))
  | 4 => .inl (G.1.1 100, 24, .inl (fun j => iI (row (j : Nat))))
  | 5 => .inl (G.1.1 100, 24, .inl (fun j => iI (row (j : Nat))))
  | 6 => .inl (G.1.1 100, 6, .inl (fun j => iI (row (j : Nat))))
  | 7 => .inl (G.1.1 100, 12, .inl (fun j => iI (row (j : Nat))))
  | 8 => .inr (8, [.ref (ad (12 * i + 9)), .int (iI (row 1))])
  | 9 => .inl (G.1.1 100, 24, .inl (fun j => iI (row (j : Nat))))
  | 10 => .inr (8, [.ref (ad (12 * i + 11)), .int (iI (row 1))])
  | _ => .inl (G.1.1 100, 24, .inl (fun j => iI (row (j : Nat))))
def ceO (G : gp_) (ad : Nat → Nat) (j : Nat) (row : Int → Int) : va_E := match j with
  | 0 => .inr (10, [.ref (ad 0), .ref (ad 133), .ref (ad 134), .ref (ad 135), .ref (ad 136), .ref (ad 138), .ref (ad 140), .ref (ad 148)])
  | 1 => .inr (7, [.int (iI (row 0)), .int (iI (row 1))])
  | 2 => .inr (1, [.ref (ad 0), .ref (ad 133)])
  | 3 => .inr (9, [.ref (ad 0), .ref (ad 133)])
  | 4 => .inr (6, [.ref (ad 0), .ref (ad 137)])
  | 5 => .inl (G.1.1 100, 24, .inl (fun j => iI (row (j : Nat))))
  | 6 => .inr (3, [.ref (ad 0), .ref (ad 139), .ref (ad 120), .int (iI (row 3)), .int (iI (row 4)), .int (iI (row 5))])
  | 7 => .inl (G.1.1 102, 9, .inr (.inr (.inr (.inr (fun j => some (ad (12 * (j + 1))))))))
  | 8 => .inr (5, [.ref (ad 141), .ref (ad 143), .ref (ad 144), .ref (ad 145), .ref (ad 146), .int (iI (row 5)), .ref (ad 147), .int (iI (row 7))])
  | 9 => .inr (0, [.ref (ad 142), .int (iI (row 1)), .int (iI (row 2)), .int (iI (row 3))])
  | 10 => .inl (G.1.1 101, (row (-1)).toNat, .inl (fun j => iI (row (j : Nat))))
  | 11 => .inl (G.1.1 103, 60, .inr (.inr (.inr (.inr (fun j => kv_ G (row (j : Nat)))))))
  | 12 => .inl (G.1.1 100, 60, .inl (fun j => iI (row (j : Nat))))
  | 13 => .inl (G.1.1 100, 60, .inl (fun j => iI (row (j : Nat))))
  | 14 => .inl (G.1.1 100, 60, .inl (fun j => iI (row (j : Nat))))
  | 15 => .inl (G.1.1 100, 3, .inl (fun j => iI (row (j : Nat))))
  | 16 => .inr (4, [.ref (ad 149)])
  | 17 => .inr (0, [.ref (ad 150), .int (iI (row 1)), .int (iI (row 2)), .int (iI (row 3))])
  | _ => .inl (G.1.1 101, (row (-1)).toNat, .inl (fun j => iI (row (j : Nat))))
def ceX (G : gp_) (ad : Nat → Nat) (k : Nat) (row : Int → Int) : va_E := if k < 132 then ceH G ad (k / 12) (k % 12) row else ceO G ad (k - 132) row
theorem ceXh_0 (G : gp_) (ad : Nat → Nat) (row : Int → Int) (i : Nat) (hi : i < 11) : ceX G ad (12 * i + 0) row = .inr (2, [.ref (ad (12 * i + 1)), .ref (ad (12 * i + 2)), .ref (ad (12 * i + 3)), .ref (ad (12 * i + 4)), .ref (ad (12 * i + 5)), .ref (ad (12 * i + 6)), .ref (ad (12 * i + 7)), .ref (ad (12 * i + 8)), .ref (ad (12 * i + 10)), .int (iI (row 9)), .int (iI (row 10)), .int (iI (row 11)), .int (iI (row 12)), .int (iI (row 13)), .int (iI (row 14)), .int (iI (row 15)), .int (iI (row 16))]) := by
  unfold ceX
  rw [if_pos (by omega), show (12 * i + 0) / 12 = i by omega, show (12 * i + 0) % 12 = 0 by omega]
  rfl
theorem ceXh_1 (G : gp_) (ad : Nat → Nat) (row : Int → Int) (i : Nat) (hi : i < 11) : ceX G ad (12 * i + 1) row = .inl (G.1.1 100, 96, .inl (fun j => iI (row (j : Nat)))) := by
  unfold ceX
  rw [if_pos (by omega), show (12 * i + 1) / 12 = i by omega, show (12 * i + 1) % 12 = 1 by omega]
  rfl
theorem ceXh_2 (G : gp_) (ad : Nat → Nat) (row : Int → Int) (i : Nat) (hi : i < 11) : ceX G ad (12 * i + 2) row = .inl (G.1.1 100, 24, .inl (fun j => iI (row (j : Nat)))) := by
  unfold ceX
  rw [if_pos (by omega), show (12 * i + 2) / 12 = i by omega, show (12 * i + 2) % 12 = 2 by omega]
  rfl
theorem ceXh_3 (G : gp_) (ad : Nat → Nat) (row : Int → Int) (i : Nat) (hi : i < 11) : ceX G ad (12 * i + 3) row = .inl (G.1.1 100, 24, .inl (fun j => iI (row (j : Nat)))) := by
  unfold ceX
  rw [if_pos (by omega), show (12 * i + 3) / 12 = i by omega, show (12 * i + 3) % 12 = 3 by omega]
  rfl
theorem ceXh_4 (G : gp_) (ad : Nat → Nat) (row : Int → Int) (i : Nat) (hi : i < 11) : ceX G ad (12 * i + 4) row = .inl (G.1.1 100, 24, .inl (fun j => iI (row (j : Nat)))) := by
  unfold ceX
  rw [if_pos (by omega), show (12 * i + 4) / 12 = i by omega, show (12 * i + 4) % 12 = 4 by omega]
  rfl
theorem ceXh_5 (G : gp_) (ad : Nat → Nat) (row : Int → Int) (i : Nat) (hi : i < 11) : ceX G ad (12 * i + 5) row = .inl (G.1.1 100, 24, .inl (fun j => iI (row (j : Nat)))) := by
  unfold ceX
  rw [if_pos (by omega), show (12 * i + 5) / 12 = i by omega, show (12 * i + 5) % 12 = 5 by omega]
  rfl
theorem ceXh_6 (G : gp_) (ad : Nat → Nat) (row : Int → Int) (i : Nat) (hi : i < 11) : ceX G ad (12 * i + 6) row = .inl (G.1.1 100, 6, .inl (fun j => iI (row (j : Nat)))) := by
  unfold ceX
  rw [if_pos (by omega), show (12 * i + 6) / 12 = i by omega, show (12 * i + 6) % 12 = 6 by omega]
  rfl
theorem ceXh_7 (G : gp_) (ad : Nat → Nat) (row : Int → Int) (i : Nat) (hi : i < 11) : ceX G ad (12 * i + 7) row = .inl (G.1.1 100, 12, .inl (fun j => iI (row (j : Nat)))) := by
  unfold ceX
  rw [if_pos (by omega), show (12 * i + 7) / 12 = i by omega, show (12 * i + 7) % 12 = 7 by omega]
  rfl
theorem ceXh_8 (G : gp_) (ad : Nat → Nat) (row : Int → Int) (i : Nat) (hi : i < 11) : ceX G ad (12 * i + 8) row = .inr (8, [.ref (ad (12 * i + 9)), .int (iI (row 1))]) := by
  unfold ceX
  rw [if_pos (by omega), show (12 * i + 8) / 12 = i by omega, show (12 * i + 8) % 12 = 8 by omega]
  rfl
theorem ceXh_9 (G : gp_) (ad : Nat → Nat) (row : Int → Int) (i : Nat) (hi : i < 11) : ceX G ad (12 * i + 9) row = .inl (G.1.1 100, 24, .inl (fun j => iI (row (j : Nat)))) := by
  unfold ceX
  rw [if_pos (by omega), show (12 * i + 9) / 12 = i by omega, show (12 * i + 9) % 12 = 9 by omega]
  rfl
theorem ceXh_10 (G : gp_) (ad : Nat → Nat) (row : Int → Int) (i : Nat) (hi : i < 11) : ceX G ad (12 * i + 10) row = .inr (8, [.ref (ad (12 * i + 11)), .int (iI (row 1))]) := by
  unfold ceX
  rw [if_pos (by omega), show (12 * i + 10) / 12 = i by omega, show (12 * i + 10) % 12 = 10 by omega]
  rfl
theorem ceXh_11 (G : gp_) (ad : Nat → Nat) (row : Int → Int) (i : Nat) (hi : i < 11) : ceX G ad (12 * i + 11) row = .inl (G.1.1 100, 24, .inl (fun j => iI (row (j : Nat)))) := by
  unfold ceX
  rw [if_pos (by omega), show (12 * i + 11) / 12 = i by omega, show (12 * i + 11) % 12 = 11 by omega]
  rfl
theorem ceX_0 (G : gp_) (ad : Nat → Nat) (row : Int → Int) : ceX G ad 0 row = .inr (2, [.ref (ad 1), .ref (ad 2), .ref (ad 3), .ref (ad 4), .ref (ad 5), .ref (ad 6), .ref (ad 7), .ref (ad 8), .ref (ad 10), .int (iI (row 9)), .int (iI (row 10)), .int (iI (row 11)), .int (iI (row 12)), .int (iI (row 13)), .int (iI (row 14)), .int (iI (row 15)), .int (iI (row 16))]) := rfl
theorem ceX_1 (G : gp_) (ad : Nat → Nat) (row : Int → Int) : ceX G ad 1 row = .inl (G.1.1 100, 96, .inl (fun j => iI (row (j : Nat)))) := rfl
theorem ceX_2 (G : gp_) (ad : Nat → Nat) (row : Int → Int) : ceX G ad 2 row = .inl (G.1.1 100, 24, .inl (fun j => iI (row (j : Nat)))) := rfl
theorem ceX_3 (G : gp_) (ad : Nat → Nat) (row : Int → Int) : ceX G ad 3 row = .inl (G.1.1 100, 24, .inl (fun j => iI (row (j : Nat)))) := rfl
theorem ceX_4 (G : gp_) (ad : Nat → Nat) (row : Int → Int) : ceX G ad 4 row = .inl (G.1.1 100, 24, .inl (fun j => iI (row (j : Nat)))) := rfl
theorem ceX_5 (G : gp_) (ad : Nat → Nat) (row : Int → Int) : ceX G ad 5 row = .inl (G.1.1 100, 24, .inl (fun j => iI (row (j : Nat)))) := rfl
theorem ceX_6 (G : gp_) (ad : Nat → Nat) (row : Int → Int) : ceX G ad 6 row = .inl (G.1.1 100, 6, .inl (fun j => iI (row (j : Nat)))) := rfl
theorem ceX_7 (G : gp_) (ad : Nat → Nat) (row : Int → Int) : ceX G ad 7 row = .inl (G.1.1 100, 12, .inl (fun j => iI (row (j : Nat)))) := rfl
theorem ceX_8 (G : gp_) (ad : Nat → Nat) (row : Int → Int) : ceX G ad 8 row = .inr (8, [.ref (ad 9), .int (iI (row 1))]) := rfl
theorem ceX_9 (G : gp_) (ad : Nat → Nat) (row : Int → Int) : ceX G ad 9 row = .inl (G.1.1 100, 24, .inl (fun j => iI (row (j : Nat)))) := rfl
theorem ceX_10 (G : gp_) (ad : Nat → Nat) (row : Int → Int) : ceX G ad 10 row = .inr (8, [.ref (ad 11), .int (iI (row 1))]) := rfl
theorem ceX_11 (G : gp_) (ad : Nat → Nat) (row : Int → Int) : ceX G ad 11 row = .inl (G.1.1 100, 24, .inl (fun j => iI (row (j : Nat)))) := rfl
theorem ceX_120 (G : gp_) (ad : Nat → Nat) (row : Int → Int) : ceX G ad 120 row = .inr (2, [.ref (ad 121), .ref (ad 122), .ref (ad 123), .ref (ad 124), .ref (ad 125), .ref (ad 126), .ref (ad 127), .ref (ad 128), .ref (ad 130), .int (iI (row 9)), .int (iI (row 10)), .int (iI (row 11)), .int (iI (row 12)), .int (iI (row 13)), .int (iI (row 14)), .int (iI (row 15)), .int (iI (row 16))]) := rfl
theorem ceX_121 (G : gp_) (ad : Nat → Nat) (row : Int → Int) : ceX G ad 121 row = .inl (G.1.1 100, 96, .inl (fun j => iI (row (j : Nat)))) := rfl
theorem ceX_122 (G : gp_) (ad : Nat → Nat) (row : Int → Int) : ceX G ad 122 row = .inl (G.1.1 100, 24, .inl (fun j => iI (row (j : Nat)))) := rfl
theorem ceX_123 (G : gp_) (ad : Nat → Nat) (row : Int → Int) : ceX G ad 123 row = .inl (G.1.1 100, 24, .inl (fun j => iI (row (j : Nat)))) := rfl
theorem ceX_124 (G : gp_) (ad : Nat → Nat) (row : Int → Int) : ceX G ad 124 row = .inl (G.1.1 100, 24, .inl (fun j => iI (row (j : Nat)))) := rfl
theorem ceX_125 (G : gp_) (ad : Nat → Nat) (row : Int → Int) : ceX G ad 125 row = .inl (G.1.1 100, 24, .inl (fun j => iI (row (j : Nat)))) := rfl
theorem ceX_126 (G : gp_) (ad : Nat → Nat) (row : Int → Int) : ceX G ad 126 row = .inl (G.1.1 100, 6, .inl (fun j => iI (row (j : Nat)))) := rfl
theorem ceX_127 (G : gp_) (ad : Nat → Nat) (row : Int → Int) : ceX G ad 127 row = .inl (G.1.1 100, 12, .inl (fun j => iI (row (j : Nat)))) := rfl
theorem ceX_128 (G : gp_) (ad : Nat → Nat) (row : Int → Int) : ceX G ad 128 row = .inr (8, [.ref (ad 129), .int (iI (row 1))]) := rfl
theorem ceX_129 (G : gp_) (ad : Nat → Nat) (row : Int → Int) : ceX G ad 129 row = .inl (G.1.1 100, 24, .inl (fun j => iI (row (j : Nat)))) := rfl
theorem ceX_130 (G : gp_) (ad : Nat → Nat) (row : Int → Int) : ceX G ad 130 row = .inr (8, [.ref (ad 131), .int (iI (row 1))]) := rfl
theorem ceX_131 (G : gp_) (ad : Nat → Nat) (row : Int → Int) : ceX G ad 131 row = .inl (G.1.1 100, 24, .inl (fun j => iI (row (j : Nat)))) := rfl
theorem ceX_132 (G : gp_) (ad : Nat → Nat) (row : Int → Int) : ceX G ad 132 row = .inr (10, [.ref (ad 0), .ref (ad 133), .ref (ad 134), .ref (ad 135), .ref (ad 136), .ref (ad 138), .ref (ad 140), .ref (ad 148)]) := rfl
theorem ceX_133 (G : gp_) (ad : Nat → Nat) (row : Int → Int) : ceX G ad 133 row = .inr (7, [.int (iI (row 0)), .int (iI (row 1))]) := rfl
theorem ceX_134 (G : gp_) (ad : Nat → Nat) (row : Int → Int) : ceX G ad 134 row = .inr (1, [.ref (ad 0), .ref (ad 133)]) := rfl
theorem ceX_135 (G : gp_) (ad : Nat → Nat) (row : Int → Int) : ceX G ad 135 row = .inr (9, [.ref (ad 0), .ref (ad 133)]) := rfl
theorem ceX_136 (G : gp_) (ad : Nat → Nat) (row : Int → Int) : ceX G ad 136 row = .inr (6, [.ref (ad 0), .ref (ad 137)]) := rfl
theorem ceX_137 (G : gp_) (ad : Nat → Nat) (row : Int → Int) : ceX G ad 137 row = .inl (G.1.1 100, 24, .inl (fun j => iI (row (j : Nat)))) := rfl
theorem ceX_138 (G : gp_) (ad : Nat → Nat) (row : Int → Int) : ceX G ad 138 row = .inr (3, [.ref (ad 0), .ref (ad 139), .ref (ad 120), .int (iI (row 3)), .int (iI (row 4)), .int (iI (row 5))]) := rfl
theorem ceX_139 (G : gp_) (ad : Nat → Nat) (row : Int → Int) : ceX G ad 139 row = .inl (G.1.1 102, 9, .inr (.inr (.inr (.inr (fun j => some (ad (12 * (j + 1)))))))) := rfl
theorem ceX_140 (G : gp_) (ad : Nat → Nat) (row : Int → Int) : ceX G ad 140 row = .inr (5, [.ref (ad 141), .ref (ad 143), .ref (ad 144), .ref (ad 145), .ref (ad 146), .int (iI (row 5)), .ref (ad 147), .int (iI (row 7))]) := rfl
theorem ceX_141 (G : gp_) (ad : Nat → Nat) (row : Int → Int) : ceX G ad 141 row = .inr (0, [.ref (ad 142), .int (iI (row 1)), .int (iI (row 2)), .int (iI (row 3))]) := rfl
theorem ceX_142 (G : gp_) (ad : Nat → Nat) (row : Int → Int) : ceX G ad 142 row = .inl (G.1.1 101, (row (-1)).toNat, .inl (fun j => iI (row (j : Nat)))) := rfl
theorem ceX_143 (G : gp_) (ad : Nat → Nat) (row : Int → Int) : ceX G ad 143 row = .inl (G.1.1 103, 60, .inr (.inr (.inr (.inr (fun j => kv_ G (row (j : Nat))))))) := rfl
theorem ceX_144 (G : gp_) (ad : Nat → Nat) (row : Int → Int) : ceX G ad 144 row = .inl (G.1.1 100, 60, .inl (fun j => iI (row (j : Nat)))) := rfl
theorem ceX_145 (G : gp_) (ad : Nat → Nat) (row : Int → Int) : ceX G ad 145 row = .inl (G.1.1 100, 60, .inl (fun j => iI (row (j : Nat)))) := rfl
theorem ceX_146 (G : gp_) (ad : Nat → Nat) (row : Int → Int) : ceX G ad 146 row = .inl (G.1.1 100, 60, .inl (fun j => iI (row (j : Nat)))) := rfl
theorem ceX_147 (G : gp_) (ad : Nat → Nat) (row : Int → Int) : ceX G ad 147 row = .inl (G.1.1 100, 3, .inl (fun j => iI (row (j : Nat)))) := rfl
theorem ceX_148 (G : gp_) (ad : Nat → Nat) (row : Int → Int) : ceX G ad 148 row = .inr (4, [.ref (ad 149)]) := rfl
theorem ceX_149 (G : gp_) (ad : Nat → Nat) (row : Int → Int) : ceX G ad 149 row = .inr (0, [.ref (ad 150), .int (iI (row 1)), .int (iI (row 2)), .int (iI (row 3))]) := rfl
theorem ceX_150 (G : gp_) (ad : Nat → Nat) (row : Int → Int) : ceX G ad 150 row = .inl (G.1.1 101, (row (-1)).toNat, .inl (fun j => iI (row (j : Nat)))) := rfl
theorem puX_0_9 (G : gp_) (ad : Nat → Nat) (row : Int → Int) (v : Int) : ceX G ad 0 (ur_ row 9 v) = .inr (2, ([.ref (ad 1), .ref (ad 2), .ref (ad 3), .ref (ad 4), .ref (ad 5), .ref (ad 6), .ref (ad 7), .ref (ad 8), .ref (ad 10), .int (iI (row 9)), .int (iI (row 10)), .int (iI (row 11)), .int (iI (row 12)), .int (iI (row 13)), .int (iI (row 14)), .int (iI (row 15)), .int (iI (row 16))] : List Value).set 9 (.int (iI v))) := rfl
theorem puX_0_10 (G : gp_) (ad : Nat → Nat) (row : Int → Int) (v : Int) : ceX G ad 0 (ur_ row 10 v) = .inr (2, ([.ref (ad 1), .ref (ad 2), .ref (ad 3), .ref (ad 4), .ref (ad 5), .ref (ad 6), .ref (ad 7), .ref (ad 8), .ref (ad 10), .int (iI (row 9)), .int (iI (row 10)), .int (iI (row 11)), .int (iI (row 12)), .int (iI (row 13)), .int (iI (row 14)), .int (iI (row 15)), .int (iI (row 16))] : List Value).set 10 (.int (iI v))) := rfl
theorem puX_0_11 (G : gp_) (ad : Nat → Nat) (row : Int → Int) (v : Int) : ceX G ad 0 (ur_ row 11 v) = .inr (2, ([.ref (ad 1), .ref (ad 2), .ref (ad 3), .ref (ad 4), .ref (ad 5), .ref (ad 6), .ref (ad 7), .ref (ad 8), .ref (ad 10), .int (iI (row 9)), .int (iI (row 10)), .int (iI (row 11)), .int (iI (row 12)), .int (iI (row 13)), .int (iI (row 14)), .int (iI (row 15)), .int (iI (row 16))] : List Value).set 11 (.int (iI v))) := rfl
theorem puX_0_12 (G : gp_) (ad : Nat → Nat) (row : Int → Int) (v : Int) : ceX G ad 0 (ur_ row 12 v) = .inr (2, ([.ref (ad 1), .ref (ad 2), .ref (ad 3), .ref (ad 4), .ref (ad 5), .ref (ad 6), .ref (ad 7), .ref (ad 8), .ref (ad 10), .int (iI (row 9)), .int (iI (row 10)), .int (iI (row 11)), .int (iI (row 12)), .int (iI (row 13)), .int (iI (row 14)), .int (iI (row 15)), .int (iI (row 16))] : List Value).set 12 (.int (iI v))) := rfl
theorem puX_0_13 (G : gp_) (ad : Nat → Nat) (row : Int → Int) (v : Int) : ceX G ad 0 (ur_ row 13 v) = .inr (2, ([.ref (ad 1), .ref (ad 2), .ref (ad 3), .ref (ad 4), .ref (ad 5), .ref (ad 6), .ref (ad 7), .ref (ad 8), .ref (ad 10), .int (iI (row 9)), .int (iI (row 10)), .int (iI (row 11)), .int (iI (row 12)), .int (iI (row 13)), .int (iI (row 14)), .int (iI (row 15)), .int (iI (row 16))] : List Value).set 13 (.int (iI v))) := rfl
theorem puX_0_14 (G : gp_) (ad : Nat → Nat) (row : Int → Int) (v : Int) : ceX G ad 0 (ur_ row 14 v) = .inr (2, ([.ref (ad 1), .ref (ad 2), .ref (ad 3), .ref (ad 4), .ref (ad 5), .ref (ad 6), .ref (ad 7), .ref (ad 8), .ref (ad 10), .int (iI (row 9)), .int (iI (row 10)), .int (iI (row 11)), .int (iI (row 12)), .int (iI (row 13)), .int (iI (row 14)), .int (iI (row 15)), .int (iI (row 16))] : List Value).set 14 (.int (iI v))) := rfl
theorem puX_0_15 (G : gp_) (ad : Nat → Nat) (row : Int → Int) (v : Int) : ceX G ad 0 (ur_ row 15 v) = .inr (2, ([.ref (ad 1), .ref (ad 2), .ref (ad 3), .ref (ad 4), .ref (ad 5), .ref (ad 6), .ref (ad 7), .ref (ad 8), .ref (ad 10), .int (iI (row 9)), .int (iI (row 10)), .int (iI (row 11)), .int (iI (row 12)), .int (iI (row 13)), .int (iI (row 14)), .int (iI (row 15)), .int (iI (row 16))] : List Value).set 15 (.int (iI v))) := rfl
theorem puX_0_16 (G : gp_) (ad : Nat → Nat) (row : Int → Int) (v : Int) : ceX G ad 0 (ur_ row 16 v) = .inr (2, ([.ref (ad 1), .ref (ad 2), .ref (ad 3), .ref (ad 4), .ref (ad 5), .ref (ad 6), .ref (ad 7), .ref (ad 8), .ref (ad 10), .int (iI (row 9)), .int (iI (row 10)), .int (iI (row 11)), .int (iI (row 12)), .int (iI (row 13)), .int (iI (row 14)), .int (iI (row 15)), .int (iI (row 16))] : List Value).set 16 (.int (iI v))) := rfl
theorem puX_8_1 (G : gp_) (ad : Nat → Nat) (row : Int → Int) (v : Int) : ceX G ad 8 (ur_ row 1 v) = .inr (8, ([.ref (ad 9), .int (iI (row 1))] : List Value).set 1 (.int (iI v))) := rfl
theorem puX_10_1 (G : gp_) (ad : Nat → Nat) (row : Int → Int) (v : Int) : ceX G ad 10 (ur_ row 1 v) = .inr (8, ([.ref (ad 11), .int (iI (row 1))] : List Value).set 1 (.int (iI v))) := rfl
theorem puX_133_0 (G : gp_) (ad : Nat → Nat) (row : Int → Int) (v : Int) : ceX G ad 133 (ur_ row 0 v) = .inr (7, ([.int (iI (row 0)), .int (iI (row 1))] : List Value).set 0 (.int (iI v))) := rfl
theorem puX_133_1 (G : gp_) (ad : Nat → Nat) (row : Int → Int) (v : Int) : ceX G ad 133 (ur_ row 1 v) = .inr (7, ([.int (iI (row 0)), .int (iI (row 1))] : List Value).set 1 (.int (iI v))) := rfl
theorem puX_138_3 (G : gp_) (ad : Nat → Nat) (row : Int → Int) (v : Int) : ceX G ad 138 (ur_ row 3 v) = .inr (3, ([.ref (ad 0), .ref (ad 139), .ref (ad 120), .int (iI (row 3)), .int (iI (row 4)), .int (iI (row 5))] : List Value).set 3 (.int (iI v))) := rfl
theorem puX_138_4 (G : gp_) (ad : Nat → Nat) (row : Int → Int) (v : Int) : ceX G ad 138 (ur_ row 4 v) = .inr (3, ([.ref (ad 0), .ref (ad 139), .ref (ad 120), .int (iI (row 3)), .int (iI (row 4)), .int (iI (row 5))] : List Value).set 4 (.int (iI v))) := rfl
theorem puX_138_5 (G : gp_) (ad : Nat → Nat) (row : Int → Int) (v : Int) : ceX G ad 138 (ur_ row 5 v) = .inr (3, ([.ref (ad 0), .ref (ad 139), .ref (ad 120), .int (iI (row 3)), .int (iI (row 4)), .int (iI (row 5))] : List Value).set 5 (.int (iI v))) := rfl
theorem puX_140_5 (G : gp_) (ad : Nat → Nat) (row : Int → Int) (v : Int) : ceX G ad 140 (ur_ row 5 v) = .inr (5, ([.ref (ad 141), .ref (ad 143), .ref (ad 144), .ref (ad 145), .ref (ad 146), .int (iI (row 5)), .ref (ad 147), .int (iI (row 7))] : List Value).set 5 (.int (iI v))) := rfl
theorem puX_140_7 (G : gp_) (ad : Nat → Nat) (row : Int → Int) (v : Int) : ceX G ad 140 (ur_ row 7 v) = .inr (5, ([.ref (ad 141), .ref (ad 143), .ref (ad 144), .ref (ad 145), .ref (ad 146), .int (iI (row 5)), .ref (ad 147), .int (iI (row 7))] : List Value).set 7 (.int (iI v))) := rfl
theorem puX_141_1 (G : gp_) (ad : Nat → Nat) (row : Int → Int) (v : Int) : ceX G ad 141 (ur_ row 1 v) = .inr (0, ([.ref (ad 142), .int (iI (row 1)), .int (iI (row 2)), .int (iI (row 3))] : List Value).set 1 (.int (iI v))) := rfl
theorem puX_141_2 (G : gp_) (ad : Nat → Nat) (row : Int → Int) (v : Int) : ceX G ad 141 (ur_ row 2 v) = .inr (0, ([.ref (ad 142), .int (iI (row 1)), .int (iI (row 2)), .int (iI (row 3))] : List Value).set 2 (.int (iI v))) := rfl
theorem puX_141_3 (G : gp_) (ad : Nat → Nat) (row : Int → Int) (v : Int) : ceX G ad 141 (ur_ row 3 v) = .inr (0, ([.ref (ad 142), .int (iI (row 1)), .int (iI (row 2)), .int (iI (row 3))] : List Value).set 3 (.int (iI v))) := rfl
theorem puX_149_1 (G : gp_) (ad : Nat → Nat) (row : Int → Int) (v : Int) : ceX G ad 149 (ur_ row 1 v) = .inr (0, ([.ref (ad 150), .int (iI (row 1)), .int (iI (row 2)), .int (iI (row 3))] : List Value).set 1 (.int (iI v))) := rfl
theorem puX_149_2 (G : gp_) (ad : Nat → Nat) (row : Int → Int) (v : Int) : ceX G ad 149 (ur_ row 2 v) = .inr (0, ([.ref (ad 150), .int (iI (row 1)), .int (iI (row 2)), .int (iI (row 3))] : List Value).set 2 (.int (iI v))) := rfl
theorem puX_149_3 (G : gp_) (ad : Nat → Nat) (row : Int → Int) (v : Int) : ceX G ad 149 (ur_ row 3 v) = .inr (0, ([.ref (ad 150), .int (iI (row 1)), .int (iI (row 2)), .int (iI (row 3))] : List Value).set 3 (.int (iI v))) := rfl
theorem puXh_0_9 (G : gp_) (ad : Nat → Nat) (row : Int → Int) (v : Int) (i : Nat) (hi : i < 11) : ceX G ad (12 * i + 0) (ur_ row 9 v) = .inr (2, ([.ref (ad (12 * i + 1)), .ref (ad (12 * i + 2)), .ref (ad (12 * i + 3)), .ref (ad (12 * i + 4)), .ref (ad (12 * i + 5)), .ref (ad (12 * i + 6)), .ref (ad (12 * i + 7)), .ref (ad (12 * i + 8)), .ref (ad (12 * i + 10)), .int (iI (row 9)), .int (iI (row 10)), .int (iI (row 11)), .int (iI (row 12)), .int (iI (row 13)), .int (iI (row 14)), .int (iI (row 15)), .int (iI (row 16))] : List Value).set 9 (.int (iI v))) := (ceXh_0 G ad (ur_ row 9 v) i hi).trans rfl
theorem puXh_0_10 (G : gp_) (ad : Nat → Nat) (row : Int → Int) (v : Int) (i : Nat) (hi : i < 11) : ceX G ad (12 * i + 0) (ur_ row 10 v) = .inr (2, ([.ref (ad (12 * i + 1)), .ref (ad (12 * i + 2)), .ref (ad (12 * i + 3)), .ref (ad (12 * i + 4)), .ref (ad (12 * i + 5)), .ref (ad (12 * i + 6)), .ref (ad (12 * i + 7)), .ref (ad (12 * i + 8)), .ref (ad (12 * i + 10)), .int (iI (row 9)), .int (iI (row 10)), .int (iI (row 11)), .int (iI (row 12)), .int (iI (row 13)), .int (iI (row 14)), .int (iI (row 15)), .int (iI (row 16))] : List Value).set 10 (.int (iI v))) := (ceXh_0 G ad (ur_ row 10 v) i hi).trans rfl
theorem puXh_0_11 (G : gp_) (ad : Nat → Nat) (row : Int → Int) (v : Int) (i : Nat) (hi : i < 11) : ceX G ad (12 * i + 0) (ur_ row 11 v) = .inr (2, ([.ref (ad (12 * i + 1)), .ref (ad (12 * i + 2)), .ref (ad (12 * i + 3)), .ref (ad (12 * i + 4)), .ref (ad (12 * i + 5)), .ref (ad (12 * i + 6)), .ref (ad (12 * i + 7)), .ref (ad (12 * i + 8)), .ref (ad (12 * i + 10)), .int (iI (row 9)), .int (iI (row 10)), .int (iI (row 11)), .int (iI (row 12)), .int (iI (row 13)), .int (iI (row 14)), .int (iI (row 15)), .int (iI (row 16))] : List Value).set 11 (.int (iI v))) := (ceXh_0 G ad (ur_ row 11 v) i hi).trans rfl
theorem puXh_0_12 (G : gp_) (ad : Nat → Nat) (row : Int → Int) (v : Int) (i : Nat) (hi : i < 11) : ceX G ad (12 * i + 0) (ur_ row 12 v) = .inr (2, ([.ref (ad (12 * i + 1)), .ref (ad (12 * i + 2)), .ref (ad (12 * i + 3)), .ref (ad (12 * i + 4)), .ref (ad (12 * i + 5)), .ref (ad (12 * i + 6)), .ref (ad (12 * i + 7)), .ref (ad (12 * i + 8)), .ref (ad (12 * i + 10)), .int (iI (row 9)), .int (iI (row 10)), .int (iI (row 11)), .int (iI (row 12)), .int (iI (row 13)), .int (iI (row 14)), .int (iI (row 15)), .int (iI (row 16))] : List Value).set 12 (.int (iI v))) := (ceXh_0 G ad (ur_ row 12 v) i hi).trans rfl
theorem puXh_0_13 (G : gp_) (ad : Nat → Nat) (row : Int → Int) (v : Int) (i : Nat) (hi : i < 11) : ceX G ad (12 * i + 0) (ur_ row 13 v) = .inr (2, ([.ref (ad (12 * i + 1)), .ref (ad (12 * i + 2)), .ref (ad (12 * i + 3)), .ref (ad (12 * i + 4)), .ref (ad (12 * i + 5)), .ref (ad (12 * i + 6)), .ref (ad (12 * i + 7)), .ref (ad (12 * i + 8)), .ref (ad (12 * i + 10)), .int (iI (row 9)), .int (iI (row 10)), .int (iI (row 11)), .int (iI (row 12)), .int (iI (row 13)), .int (iI (row 14)), .int (iI (row 15)), .int (iI (row 16))] : List Value).set 13 (.int (iI v))) := (ceXh_0 G ad (ur_ row 13 v) i hi).trans rfl
theorem puXh_0_14 (G : gp_) (ad : Nat → Nat) (row : Int → Int) (v : Int) (i : Nat) (hi : i < 11) : ceX G ad (12 * i + 0) (ur_ row 14 v) = .inr (2, ([.ref (ad (12 * i + 1)), .ref (ad (12 * i + 2)), .ref (ad (12 * i + 3)), .ref (ad (12 * i + 4)), .ref (ad (12 * i + 5)), .ref (ad (12 * i + 6)), .ref (ad (12 * i + 7)), .ref (ad (12 * i + 8)), .ref (ad (12 * i + 10)), .int (iI (row 9)), .int (iI (row 10)), .int (iI (row 11)), .int (iI (row 12)), .int (iI (row 13)), .int (iI (row 14)), .int (iI (row 15)), .int (iI (row 16))] : List Value).set 14 (.int (iI v))) := (ceXh_0 G ad (ur_ row 14 v) i hi).trans rfl
theorem puXh_0_15 (G : gp_) (ad : Nat → Nat) (row : Int → Int) (v : Int) (i : Nat) (hi : i < 11) : ceX G ad (12 * i + 0) (ur_ row 15 v) = .inr (2, ([.ref (ad (12 * i + 1)), .ref (ad (12 * i + 2)), .ref (ad (12 * i + 3)), .ref (ad (12 * i + 4)), .ref (ad (12 * i + 5)), .ref (ad (12 * i + 6)), .ref (ad (12 * i + 7)), .ref (ad (12 * i + 8)), .ref (ad (12 * i + 10)), .int (iI (row 9)), .int (iI (row 10)), .int (iI (row 11)), .int (iI (row 12)), .int (iI (row 13)), .int (iI (row 14)), .int (iI (row 15)), .int (iI (row 16))] : List Value).set 15 (.int (iI v))) := (ceXh_0 G ad (ur_ row 15 v) i hi).trans rfl
theorem puXh_0_16 (G : gp_) (ad : Nat → Nat) (row : Int → Int) (v : Int) (i : Nat) (hi : i < 11) : ceX G ad (12 * i + 0) (ur_ row 16 v) = .inr (2, ([.ref (ad (12 * i + 1)), .ref (ad (12 * i + 2)), .ref (ad (12 * i + 3)), .ref (ad (12 * i + 4)), .ref (ad (12 * i + 5)), .ref (ad (12 * i + 6)), .ref (ad (12 * i + 7)), .ref (ad (12 * i + 8)), .ref (ad (12 * i + 10)), .int (iI (row 9)), .int (iI (row 10)), .int (iI (row 11)), .int (iI (row 12)), .int (iI (row 13)), .int (iI (row 14)), .int (iI (row 15)), .int (iI (row 16))] : List Value).set 16 (.int (iI v))) := (ceXh_0 G ad (ur_ row 16 v) i hi).trans rfl
theorem puXh_8_1 (G : gp_) (ad : Nat → Nat) (row : Int → Int) (v : Int) (i : Nat) (hi : i < 11) : ceX G ad (12 * i + 8) (ur_ row 1 v) = .inr (8, ([.ref (ad (12 * i + 9)), .int (iI (row 1))] : List Value).set 1 (.int (iI v))) := (ceXh_8 G ad (ur_ row 1 v) i hi).trans rfl
theorem puXh_10_1 (G : gp_) (ad : Nat → Nat) (row : Int → Int) (v : Int) (i : Nat) (hi : i < 11) : ceX G ad (12 * i + 10) (ur_ row 1 v) = .inr (8, ([.ref (ad (12 * i + 11)), .int (iI (row 1))] : List Value).set 1 (.int (iI v))) := (ceXh_10 G ad (ur_ row 1 v) i hi).trans rfl
theorem in_X1 : ∀ w ∈ u_ws "UrnHeap$Hands" TX1 2, w ∈ gT_ := gl_ (by decide +kernel)
theorem in_X2 : ∀ w ∈ u_ws "UrnHeap$Heap" TX2 17, w ∈ gT_ := gl_ (by decide +kernel)
theorem in_X3 : ∀ w ∈ u_ws "UrnHeap$History" TX3 6, w ∈ gT_ := gl_ (by decide +kernel)
theorem in_X5 : ∀ w ∈ u_ws "UrnHeap$Line" TX5 1, w ∈ gT_ := gl_ (by decide +kernel)
theorem in_X6 : ∀ w ∈ u_ws "UrnHeap$Orders" TX6 8, w ∈ gT_ := gl_ (by decide +kernel)
theorem in_X7 : ∀ w ∈ u_ws "UrnHeap$Paths" TX7 2, w ∈ gT_ := gl_ (by decide +kernel)
theorem in_X8 : ∀ w ∈ u_ws "UrnHeap$Refusals" TX8 2, w ∈ gT_ := gl_ (by decide +kernel)
theorem in_X9 : ∀ w ∈ u_ws "UrnHeap$Row" TX9 2, w ∈ gT_ := gl_ (by decide +kernel)
theorem in_X10 : ∀ w ∈ u_ws "UrnHeap$Sexton" TX10 2, w ∈ gT_ := gl_ (by decide +kernel)
theorem in_X11 : ∀ w ∈ u_ws "UrnHeap" TX11 8, w ∈ gT_ := gl_ (by decide +kernel)
theorem in_J4 : ∀ w ∈ u_ws "java/lang/StringBuilder" TJ4 4, w ∈ gT_ := gl_ (by decide +kernel)
theorem w_253 : Cond.fieldLink "UrnHeap$Hands" 15 "UrnHeap$Hands" "refusals" "LUrnHeap$Refusals;" ∈ gT_ := gm_ 253 (by decide +kernel)
theorem w_237 : Cond.fieldLink "UrnHeap$Refusals" 9 "UrnHeap$Refusals" "reason" "I" ∈ gT_ := gm_ 237 (by decide +kernel)
theorem w_239 : Cond.fieldLink "UrnHeap$Refusals" 15 "UrnHeap$Refusals" "detail" "I" ∈ gT_ := gm_ 239 (by decide +kernel)
theorem w_453 : Cond.methodLink "UrnHeap$Hands" 46 yX8_refuse ∈ gT_ := gm_ 453 (by decide +kernel)
theorem w_252 : Cond.fieldLink "UrnHeap$Hands" 9 "UrnHeap$Hands" "heap" "LUrnHeap$Heap;" ∈ gT_ := gm_ 252 (by decide +kernel)
theorem w_150 : Cond.fieldLink "UrnHeap$Hands" 25 "UrnHeap$Heap" "colours" "[I" ∈ gT_ := gm_ 150 (by decide +kernel)
theorem w_171 : Cond.fieldLink "UrnHeap$Hands" 52 "UrnHeap$Heap" "phase" "I" ∈ gT_ := gm_ 171 (by decide +kernel)
theorem w_174 : Cond.fieldLink "UrnHeap$Hands" 55 "UrnHeap$Heap" "nextSwept" "I" ∈ gT_ := gm_ 174 (by decide +kernel)
theorem w_144 : Cond.fieldLink "UrnHeap$Hands" 33 "UrnHeap$Heap" "rites" "[I" ∈ gT_ := gm_ 144 (by decide +kernel)
theorem w_155 : Cond.fieldLink "UrnHeap$Hands" 36 "UrnHeap$Heap" "madeIn" "[I" ∈ gT_ := gm_ 155 (by decide +kernel)
theorem w_178 : Cond.fieldLink "UrnHeap$Hands" 39 "UrnHeap$Heap" "roundsOver" "I" ∈ gT_ := gm_ 178 (by decide +kernel)
theorem w_182 : Cond.fieldLink "UrnHeap$Hands" 43 "UrnHeap$Heap" "urnsMade" "I" ∈ gT_ := gm_ 182 (by decide +kernel)
theorem w_449 : Cond.methodLink "UrnHeap$Hands" 29 yX1_colourOfNew ∈ gT_ := gm_ 449 (by decide +kernel)
theorem w_149 : Cond.fieldLink "UrnHeap$Heap" 21 "UrnHeap$Heap" "colours" "[I" ∈ gT_ := gm_ 149 (by decide +kernel)
theorem w_445 : Cond.methodLink "UrnHeap$Hands" 19 yX2_hasUrn ∈ gT_ := gm_ 445 (by decide +kernel)
theorem w_169 : Cond.fieldLink "UrnHeap$Heap" 43 "UrnHeap$Heap" "phase" "I" ∈ gT_ := gm_ 169 (by decide +kernel)
theorem w_173 : Cond.fieldLink "UrnHeap$Heap" 47 "UrnHeap$Heap" "nextSwept" "I" ∈ gT_ := gm_ 173 (by decide +kernel)
theorem w_482 : Cond.methodLink "UrnHeap$Heap" 84 yX2_isWhite ∈ gT_ := gm_ 482 (by decide +kernel)
theorem w_135 : Cond.fieldLink "UrnHeap$Heap" 9 "UrnHeap$Heap" "threads" "[I" ∈ gT_ := gm_ 135 (by decide +kernel)
theorem w_136 : Cond.fieldLink "UrnHeap$Hands" 67 "UrnHeap$Heap" "threads" "[I" ∈ gT_ := gm_ 136 (by decide +kernel)
theorem w_163 : Cond.fieldLink "UrnHeap$Heap" 36 "UrnHeap$Heap" "greys" "LUrnHeap$Row;" ∈ gT_ := gm_ 163 (by decide +kernel)
theorem w_123 : Cond.fieldLink "UrnHeap$Row" 15 "UrnHeap$Row" "size" "I" ∈ gT_ := gm_ 123 (by decide +kernel)
theorem w_122 : Cond.fieldLink "UrnHeap$Row" 9 "UrnHeap$Row" "urns" "[I" ∈ gT_ := gm_ 122 (by decide +kernel)
theorem w_502 : Cond.methodLink "UrnHeap$Heap" 108 yX9_addLast ∈ gT_ := gm_ 502 (by decide +kernel)
theorem w_498 : Cond.methodLink "UrnHeap$Heap" 112 yX2_makeGrey ∈ gT_ := gm_ 498 (by decide +kernel)
theorem w_494 : Cond.methodLink "UrnHeap$Hands" 70 yX2_makeGreyInRound ∈ gT_ := gm_ 494 (by decide +kernel)
theorem w_486 : Cond.methodLink "UrnHeap$Hands" 64 yX2_target ∈ gT_ := gm_ 486 (by decide +kernel)
theorem w_478 : Cond.methodLink "UrnHeap$Hands" 61 yX2_isToBeSwept ∈ gT_ := gm_ 478 (by decide +kernel)
theorem w_140 : Cond.fieldLink "UrnHeap$Hands" 74 "UrnHeap$Heap" "weaks" "[I" ∈ gT_ := gm_ 140 (by decide +kernel)
theorem w_160 : Cond.fieldLink "UrnHeap$Hands" 80 "UrnHeap$Heap" "names" "[I" ∈ gT_ := gm_ 160 (by decide +kernel)
theorem w_1083 : Cond.methodLink "UrnHeap$Heap" 94 yX2_urnsOf ∈ gT_ := gm_ 1083 (by decide +kernel)
theorem w_157 : Cond.fieldLink "UrnHeap$Heap" 27 "UrnHeap$Heap" "names" "[I" ∈ gT_ := gm_ 157 (by decide +kernel)
theorem w_558 : Cond.methodLink "UrnHeap$Heap" 98 yX2_target ∈ gT_ := gm_ 558 (by decide +kernel)
theorem w_1121 : Cond.methodLink "UrnHeap$Heap" 105 yX2_holdersOf ∈ gT_ := gm_ 1121 (by decide +kernel)
theorem w_613 : Cond.methodLink "UrnHeap$Heap" 102 yX2_hasUrn ∈ gT_ := gm_ 613 (by decide +kernel)
theorem w_184 : Cond.fieldLink "UrnHeap$Heap" 56 "UrnHeap$Heap" "urnsFreed" "I" ∈ gT_ := gm_ 184 (by decide +kernel)
theorem w_162 : Cond.fieldLink "UrnHeap$Heap" 30 "UrnHeap$Heap" "late" "[I" ∈ gT_ := gm_ 162 (by decide +kernel)
theorem w_143 : Cond.fieldLink "UrnHeap$Heap" 18 "UrnHeap$Heap" "rites" "[I" ∈ gT_ := gm_ 143 (by decide +kernel)
theorem w_138 : Cond.fieldLink "UrnHeap$Heap" 15 "UrnHeap$Heap" "weaks" "[I" ∈ gT_ := gm_ 138 (by decide +kernel)
theorem w_181 : Cond.fieldLink "UrnHeap$Heap" 53 "UrnHeap$Heap" "urnsMade" "I" ∈ gT_ := gm_ 181 (by decide +kernel)
theorem w_1109 : Cond.methodLink "UrnHeap$Heap" 123 yX2_hasBlackToWhite ∈ gT_ := gm_ 1109 (by decide +kernel)
theorem w_1105 : Cond.methodLink "UrnHeap$Heap" 119 yX2_areUrns ∈ gT_ := gm_ 1105 (by decide +kernel)
theorem w_1104 : Cond.methodLink "UrnHeap$Heap" 115 yX2_urns ∈ gT_ := gm_ 1104 (by decide +kernel)
theorem w_295 : Cond.fieldLink "UrnHeap$History" 11 "UrnHeap$History" "past" "[LUrnHeap$Heap;" ∈ gT_ := gm_ 295 (by decide +kernel)
theorem w_298 : Cond.fieldLink "UrnHeap$History" 26 "UrnHeap$History" "next" "I" ∈ gT_ := gm_ 298 (by decide +kernel)
theorem w_294 : Cond.fieldLink "UrnHeap$History" 33 "UrnHeap$History" "now" "LUrnHeap$Heap;" ∈ gT_ := gm_ 294 (by decide +kernel)
theorem w_433 : Cond.methodLink "UrnHeap$Heap" 74 arraycopyName ∈ gT_ := gm_ 433 (by decide +kernel)
theorem w_435 : Cond.native arraycopyName ∈ gT_ := gm_ 435 (by decide +kernel)
theorem w_434 : Cond.static arraycopyName ∈ gT_ := gm_ 434 (by decide +kernel)
theorem w_92 : Cond.initialized "java/lang/System" ∈ gT_ := gm_ 92 (by decide +kernel)
theorem w_154 : Cond.fieldLink "UrnHeap$Heap" 24 "UrnHeap$Heap" "madeIn" "[I" ∈ gT_ := gm_ 154 (by decide +kernel)
theorem w_440 : Cond.methodLink "UrnHeap$Row" 19 arraycopyName ∈ gT_ := gm_ 440 (by decide +kernel)
theorem w_166 : Cond.fieldLink "UrnHeap$Heap" 40 "UrnHeap$Heap" "dues" "LUrnHeap$Row;" ∈ gT_ := gm_ 166 (by decide +kernel)
theorem w_177 : Cond.fieldLink "UrnHeap$Heap" 50 "UrnHeap$Heap" "roundsOver" "I" ∈ gT_ := gm_ 177 (by decide +kernel)
theorem w_187 : Cond.fieldLink "UrnHeap$Heap" 59 "UrnHeap$Heap" "ritesDone" "I" ∈ gT_ := gm_ 187 (by decide +kernel)
theorem w_190 : Cond.fieldLink "UrnHeap$Heap" 62 "UrnHeap$Heap" "weaksCut" "I" ∈ gT_ := gm_ 190 (by decide +kernel)
theorem w_193 : Cond.fieldLink "UrnHeap$Heap" 65 "UrnHeap$Heap" "partsDone" "I" ∈ gT_ := gm_ 193 (by decide +kernel)
theorem w_436 : Cond.methodLink "UrnHeap$Heap" 80 yX9_copyFrom ∈ gT_ := gm_ 436 (by decide +kernel)
theorem w_429 : Cond.methodLink "UrnHeap$History" 36 yX2_copyFrom ∈ gT_ := gm_ 429 (by decide +kernel)
theorem w_299 : Cond.fieldLink "UrnHeap$History" 30 "UrnHeap$History" "changes" "I" ∈ gT_ := gm_ 299 (by decide +kernel)
theorem w_464 : Cond.methodLink "UrnHeap$History" 44 Lib.Math.min.name ∈ gT_ := gm_ 464 (by decide +kernel)
theorem w_465 : Cond.static Lib.Math.min.name ∈ gT_ := gm_ 465 (by decide +kernel)
theorem w_93 : Cond.initialized "java/lang/Math" ∈ gT_ := gm_ 93 (by decide +kernel)
theorem w_466 : Cond.code Lib.Math.min.name Lib.Math.min.code 2 (some .int) ∈ gT_ := gm_ 466 (by decide +kernel)
theorem w_461 : Cond.methodLink "UrnHeap$History" 40 yX3_isRefusal ∈ gT_ := gm_ 461 (by decide +kernel)
theorem w_1140 : Cond.methodLink "UrnHeap$History" 50 yX3_takeBack ∈ gT_ := gm_ 1140 (by decide +kernel)
theorem w_296 : Cond.fieldLink "UrnHeap$History" 18 "UrnHeap$History" "saved" "LUrnHeap$Heap;" ∈ gT_ := gm_ 296 (by decide +kernel)
theorem w_297 : Cond.fieldLink "UrnHeap$History" 22 "UrnHeap$History" "isSaved" "Z" ∈ gT_ := gm_ 297 (by decide +kernel)
theorem w_1149 : Cond.methodLink "UrnHeap$History" 53 yX2_urns ∈ gT_ := gm_ 1149 (by decide +kernel)
theorem w_392 : Cond.fieldLink "UrnHeap$Line" 12 "UrnHeap$Line" "signs" "Ljava/lang/StringBuilder;" ∈ gT_ := gm_ 392 (by decide +kernel)
theorem w_354 : Cond.fieldLink "UrnHeap$Orders" 12 "UrnHeap$Orders" "text" "Ljava/lang/StringBuilder;" ∈ gT_ := gm_ 354 (by decide +kernel)
theorem w_363 : Cond.fieldLink "UrnHeap$Orders" 34 "UrnHeap$Orders" "count" "I" ∈ gT_ := gm_ 363 (by decide +kernel)
theorem w_355 : Cond.fieldLink "UrnHeap$Orders" 20 "UrnHeap$Orders" "kinds" "[LUrnHeap$Kind;" ∈ gT_ := gm_ 355 (by decide +kernel)
theorem w_357 : Cond.fieldLink "UrnHeap$Orders" 24 "UrnHeap$Orders" "firsts" "[I" ∈ gT_ := gm_ 357 (by decide +kernel)
theorem w_365 : Cond.fieldLink "UrnHeap$Orders" 38 "UrnHeap$Orders" "numbers" "[I" ∈ gT_ := gm_ 365 (by decide +kernel)
theorem w_359 : Cond.fieldLink "UrnHeap$Orders" 28 "UrnHeap$Orders" "seconds" "[I" ∈ gT_ := gm_ 359 (by decide +kernel)
theorem w_361 : Cond.fieldLink "UrnHeap$Orders" 31 "UrnHeap$Orders" "thirds" "[I" ∈ gT_ := gm_ 361 (by decide +kernel)
theorem w_945 : Cond.methodLink "UrnHeap$Orders" 75 yX6_keep ∈ gT_ := gm_ 945 (by decide +kernel)
theorem w_366 : Cond.fieldLink "UrnHeap$Orders" 41 "UrnHeap$Orders" "at" "I" ∈ gT_ := gm_ 366 (by decide +kernel)
theorem w_278 : Cond.fieldLink "UrnHeap$Paths" 15 "UrnHeap$Paths" "heap" "LUrnHeap$Heap;" ∈ gT_ := gm_ 278 (by decide +kernel)
theorem w_148 : Cond.fieldLink "UrnHeap$Paths" 74 "UrnHeap$Heap" "rites" "[I" ∈ gT_ := gm_ 148 (by decide +kernel)
theorem w_684 : Cond.methodLink "UrnHeap$Paths" 34 yX7_bit ∈ gT_ := gm_ 684 (by decide +kernel)
theorem w_683 : Cond.methodLink "UrnHeap$Paths" 58 yX2_hasUrn ∈ gT_ := gm_ 683 (by decide +kernel)
theorem w_158 : Cond.fieldLink "UrnHeap$Paths" 29 "UrnHeap$Heap" "names" "[I" ∈ gT_ := gm_ 158 (by decide +kernel)
theorem w_679 : Cond.methodLink "UrnHeap$Paths" 26 yX7_rootsByRite ∈ gT_ := gm_ 679 (by decide +kernel)
theorem w_703 : Cond.methodLink "UrnHeap$Paths" 77 yX2_target ∈ gT_ := gm_ 703 (by decide +kernel)
theorem w_699 : Cond.methodLink "UrnHeap$Paths" 51 yX7_targets ∈ gT_ := gm_ 699 (by decide +kernel)
theorem w_696 : Cond.methodLink "UrnHeap$Paths" 37 yX7_isIn ∈ gT_ := gm_ 696 (by decide +kernel)
theorem w_692 : Cond.methodLink "UrnHeap$Paths" 44 yX7_targetsOfAll ∈ gT_ := gm_ 692 (by decide +kernel)
theorem w_688 : Cond.methodLink "UrnHeap$Paths" 23 yX7_reachFrom ∈ gT_ := gm_ 688 (by decide +kernel)
theorem w_675 : Cond.methodLink "UrnHeap$Paths" 19 yX7_roots ∈ gT_ := gm_ 675 (by decide +kernel)
theorem w_137 : Cond.fieldLink "UrnHeap$Paths" 80 "UrnHeap$Heap" "threads" "[I" ∈ gT_ := gm_ 137 (by decide +kernel)
theorem w_712 : Cond.methodLink "UrnHeap$Paths" 41 yX7_isHeldBySome ∈ gT_ := gm_ 712 (by decide +kernel)
theorem w_733 : Cond.methodLink "UrnHeap$Paths" 47 yX7_reach ∈ gT_ := gm_ 733 (by decide +kernel)
theorem w_742 : Cond.methodLink "UrnHeap$Paths" 54 yX7_distance ∈ gT_ := gm_ 742 (by decide +kernel)
theorem w_279 : Cond.fieldLink "UrnHeap$Paths" 9 "UrnHeap$Paths" "weights" "[I" ∈ gT_ := gm_ 279 (by decide +kernel)
theorem w_764 : Cond.methodLink "UrnHeap$Paths" 71 yX2_threadsFrom ∈ gT_ := gm_ 764 (by decide +kernel)
theorem w_763 : Cond.methodLink "UrnHeap$Paths" 68 yX2_holdersOf ∈ gT_ := gm_ 763 (by decide +kernel)
theorem w_765 : Cond.methodLink "UrnHeap$Paths" 65 yX7_heavierThan ∈ gT_ := gm_ 765 (by decide +kernel)
theorem w_759 : Cond.methodLink "UrnHeap$Paths" 62 yX7_weighAll ∈ gT_ := gm_ 759 (by decide +kernel)
theorem w_265 : Cond.fieldLink "UrnHeap$Sexton" 9 "UrnHeap$Sexton" "heap" "LUrnHeap$Heap;" ∈ gT_ := gm_ 265 (by decide +kernel)
theorem w_170 : Cond.fieldLink "UrnHeap$Sexton" 19 "UrnHeap$Heap" "phase" "I" ∈ gT_ := gm_ 170 (by decide +kernel)
theorem w_167 : Cond.fieldLink "UrnHeap$Sexton" 53 "UrnHeap$Heap" "dues" "LUrnHeap$Row;" ∈ gT_ := gm_ 167 (by decide +kernel)
theorem w_124 : Cond.fieldLink "UrnHeap$Sexton" 38 "UrnHeap$Row" "size" "I" ∈ gT_ := gm_ 124 (by decide +kernel)
theorem w_587 : Cond.methodLink "UrnHeap$Sexton" 74 yX2_makeGrey ∈ gT_ := gm_ 587 (by decide +kernel)
theorem w_588 : Cond.methodLink "UrnHeap$Sexton" 78 yX9_at ∈ gT_ := gm_ 588 (by decide +kernel)
theorem w_159 : Cond.fieldLink "UrnHeap$Sexton" 71 "UrnHeap$Heap" "names" "[I" ∈ gT_ := gm_ 159 (by decide +kernel)
theorem w_164 : Cond.fieldLink "UrnHeap$Sexton" 34 "UrnHeap$Heap" "greys" "LUrnHeap$Row;" ∈ gT_ := gm_ 164 (by decide +kernel)
theorem w_583 : Cond.methodLink "UrnHeap$Sexton" 31 yX10_markRoots ∈ gT_ := gm_ 583 (by decide +kernel)
theorem w_266 : Cond.fieldLink "UrnHeap$Sexton" 15 "UrnHeap$Sexton" "refusals" "LUrnHeap$Refusals;" ∈ gT_ := gm_ 266 (by decide +kernel)
theorem w_582 : Cond.methodLink "UrnHeap$Sexton" 25 yX8_refuse ∈ gT_ := gm_ 582 (by decide +kernel)
theorem w_194 : Cond.fieldLink "UrnHeap$Sexton" 94 "UrnHeap$Heap" "partsDone" "I" ∈ gT_ := gm_ 194 (by decide +kernel)
theorem w_146 : Cond.fieldLink "UrnHeap$Sexton" 67 "UrnHeap$Heap" "rites" "[I" ∈ gT_ := gm_ 146 (by decide +kernel)
theorem w_629 : Cond.methodLink "UrnHeap$Sexton" 106 yX9_addLast ∈ gT_ := gm_ 629 (by decide +kernel)
theorem w_608 : Cond.methodLink "UrnHeap$Sexton" 103 yX2_isWhite ∈ gT_ := gm_ 608 (by decide +kernel)
theorem w_175 : Cond.fieldLink "UrnHeap$Sexton" 115 "UrnHeap$Heap" "nextSwept" "I" ∈ gT_ := gm_ 175 (by decide +kernel)
theorem w_142 : Cond.fieldLink "UrnHeap$Sexton" 109 "UrnHeap$Heap" "weaks" "[I" ∈ gT_ := gm_ 142 (by decide +kernel)
theorem w_191 : Cond.fieldLink "UrnHeap$Sexton" 112 "UrnHeap$Heap" "weaksCut" "I" ∈ gT_ := gm_ 191 (by decide +kernel)
theorem w_630 : Cond.methodLink "UrnHeap$Sexton" 91 yX10_beginSweep ∈ gT_ := gm_ 630 (by decide +kernel)
theorem w_625 : Cond.methodLink "UrnHeap$Sexton" 87 yX10_makeRitesDue ∈ gT_ := gm_ 625 (by decide +kernel)
theorem w_152 : Cond.fieldLink "UrnHeap$Sexton" 97 "UrnHeap$Heap" "colours" "[I" ∈ gT_ := gm_ 152 (by decide +kernel)
theorem w_624 : Cond.methodLink "UrnHeap$Sexton" 100 yX2_target ∈ gT_ := gm_ 624 (by decide +kernel)
theorem w_619 : Cond.methodLink "UrnHeap$Sexton" 56 yX9_takeFirst ∈ gT_ := gm_ 619 (by decide +kernel)
theorem w_615 : Cond.methodLink "UrnHeap$Sexton" 84 yX10_blackenFirst ∈ gT_ := gm_ 615 (by decide +kernel)
theorem w_179 : Cond.fieldLink "UrnHeap$Sexton" 43 "UrnHeap$Heap" "roundsOver" "I" ∈ gT_ := gm_ 179 (by decide +kernel)
theorem w_614 : Cond.methodLink "UrnHeap$Sexton" 121 yX2_hasUrn ∈ gT_ := gm_ 614 (by decide +kernel)
theorem w_609 : Cond.methodLink "UrnHeap$Sexton" 118 yX2_free ∈ gT_ := gm_ 609 (by decide +kernel)
theorem w_604 : Cond.methodLink "UrnHeap$Sexton" 81 yX10_sweepNext ∈ gT_ := gm_ 604 (by decide +kernel)
theorem w_600 : Cond.methodLink "UrnHeap$Sexton" 46 yX10_doPartsUntilOver ∈ gT_ := gm_ 600 (by decide +kernel)
theorem w_185 : Cond.fieldLink "UrnHeap$Sexton" 50 "UrnHeap$Heap" "urnsFreed" "I" ∈ gT_ := gm_ 185 (by decide +kernel)
theorem w_188 : Cond.fieldLink "UrnHeap$Sexton" 64 "UrnHeap$Heap" "ritesDone" "I" ∈ gT_ := gm_ 188 (by decide +kernel)
theorem w_401 : Cond.fieldLink "UrnHeap" 51 "UrnHeap" "history" "LUrnHeap$History;" ∈ gT_ := gm_ 401 (by decide +kernel)
theorem w_398 : Cond.fieldLink "UrnHeap" 28 "UrnHeap" "hands" "LUrnHeap$Hands;" ∈ gT_ := gm_ 398 (by decide +kernel)
theorem w_457 : Cond.methodLink "UrnHeap" 76 yX3_settle ∈ gT_ := gm_ 457 (by decide +kernel)
theorem w_441 : Cond.methodLink "UrnHeap" 72 yX1_makeUrn ∈ gT_ := gm_ 441 (by decide +kernel)
theorem w_425 : Cond.methodLink "UrnHeap" 69 yX3_keepBefore ∈ gT_ := gm_ 425 (by decide +kernel)
theorem w_471 : Cond.methodLink "UrnHeap" 80 yX1_tieThread ∈ gT_ := gm_ 471 (by decide +kernel)
theorem w_510 : Cond.methodLink "UrnHeap" 84 yX1_takeThread ∈ gT_ := gm_ 510 (by decide +kernel)
theorem w_518 : Cond.methodLink "UrnHeap" 88 yX1_tieWeak ∈ gT_ := gm_ 518 (by decide +kernel)
theorem w_526 : Cond.methodLink "UrnHeap" 91 yX1_takeWeak ∈ gT_ := gm_ 526 (by decide +kernel)
theorem w_534 : Cond.methodLink "UrnHeap" 94 yX1_giveName ∈ gT_ := gm_ 534 (by decide +kernel)
theorem w_545 : Cond.methodLink "UrnHeap" 97 yX1_takeName ∈ gT_ := gm_ 545 (by decide +kernel)
theorem w_396 : Cond.fieldLink "UrnHeap" 13 "UrnHeap" "heap" "LUrnHeap$Heap;" ∈ gT_ := gm_ 396 (by decide +kernel)
theorem w_153 : Cond.fieldLink "UrnHeap" 104 "UrnHeap$Heap" "colours" "[I" ∈ gT_ := gm_ 153 (by decide +kernel)
theorem w_147 : Cond.fieldLink "UrnHeap" 108 "UrnHeap$Heap" "rites" "[I" ∈ gT_ := gm_ 147 (by decide +kernel)
theorem w_554 : Cond.methodLink "UrnHeap" 111 yX2_threadsFrom ∈ gT_ := gm_ 554 (by decide +kernel)
theorem w_559 : Cond.methodLink "UrnHeap" 114 yX2_holdersOf ∈ gT_ := gm_ 559 (by decide +kernel)
theorem w_141 : Cond.fieldLink "UrnHeap" 117 "UrnHeap$Heap" "weaks" "[I" ∈ gT_ := gm_ 141 (by decide +kernel)
theorem w_156 : Cond.fieldLink "UrnHeap" 120 "UrnHeap$Heap" "madeIn" "[I" ∈ gT_ := gm_ 156 (by decide +kernel)
theorem w_553 : Cond.methodLink "UrnHeap" 100 yX2_hasUrn ∈ gT_ := gm_ 553 (by decide +kernel)
theorem w_568 : Cond.methodLink "UrnHeap" 126 yX2_target ∈ gT_ := gm_ 568 (by decide +kernel)
theorem w_567 : Cond.methodLink "UrnHeap" 123 yX11_isSlot ∈ gT_ := gm_ 567 (by decide +kernel)
theorem w_161 : Cond.fieldLink "UrnHeap" 132 "UrnHeap$Heap" "names" "[I" ∈ gT_ := gm_ 161 (by decide +kernel)
theorem w_573 : Cond.methodLink "UrnHeap" 129 yX11_isName ∈ gT_ := gm_ 573 (by decide +kernel)
theorem w_399 : Cond.fieldLink "UrnHeap" 35 "UrnHeap" "sexton" "LUrnHeap$Sexton;" ∈ gT_ := gm_ 399 (by decide +kernel)
theorem w_578 : Cond.methodLink "UrnHeap" 135 yX10_beginRound ∈ gT_ := gm_ 578 (by decide +kernel)
theorem w_596 : Cond.methodLink "UrnHeap" 139 yX10_doParts ∈ gT_ := gm_ 596 (by decide +kernel)
theorem w_638 : Cond.methodLink "UrnHeap" 142 yX10_endRound ∈ gT_ := gm_ 638 (by decide +kernel)
theorem w_646 : Cond.methodLink "UrnHeap" 145 yX10_doRite ∈ gT_ := gm_ 646 (by decide +kernel)
theorem w_168 : Cond.fieldLink "UrnHeap" 148 "UrnHeap$Heap" "dues" "LUrnHeap$Row;" ∈ gT_ := gm_ 168 (by decide +kernel)
theorem w_654 : Cond.methodLink "UrnHeap" 152 yX9_at ∈ gT_ := gm_ 654 (by decide +kernel)
theorem w_165 : Cond.fieldLink "UrnHeap" 157 "UrnHeap$Heap" "greys" "LUrnHeap$Row;" ∈ gT_ := gm_ 165 (by decide +kernel)
theorem w_663 : Cond.methodLink "UrnHeap" 160 yX2_freedLate ∈ gT_ := gm_ 663 (by decide +kernel)
theorem w_400 : Cond.fieldLink "UrnHeap" 44 "UrnHeap" "paths" "LUrnHeap$Paths;" ∈ gT_ := gm_ 400 (by decide +kernel)
theorem w_671 : Cond.methodLink "UrnHeap" 163 yX7_reach ∈ gT_ := gm_ 671 (by decide +kernel)
theorem w_708 : Cond.methodLink "UrnHeap" 166 yX7_reachUrnByUrn ∈ gT_ := gm_ 708 (by decide +kernel)
theorem w_721 : Cond.methodLink "UrnHeap" 172 yX7_distance ∈ gT_ := gm_ 721 (by decide +kernel)
theorem w_720 : Cond.methodLink "UrnHeap" 169 yX7_roots ∈ gT_ := gm_ 720 (by decide +kernel)
theorem w_729 : Cond.methodLink "UrnHeap" 175 yX7_neededNames ∈ gT_ := gm_ 729 (by decide +kernel)
theorem w_738 : Cond.methodLink "UrnHeap" 178 yX7_ringLength ∈ gT_ := gm_ 738 (by decide +kernel)
theorem w_747 : Cond.methodLink "UrnHeap" 181 yX7_leftOver ∈ gT_ := gm_ 747 (by decide +kernel)
theorem w_755 : Cond.methodLink "UrnHeap" 184 yX7_urnAtRank ∈ gT_ := gm_ 755 (by decide +kernel)
theorem w_402 : Cond.fieldLink "UrnHeap" 58 "UrnHeap" "orders" "LUrnHeap$Orders;" ∈ gT_ := gm_ 402 (by decide +kernel)
theorem w_403 : Cond.fieldLink "UrnHeap" 65 "UrnHeap" "line" "LUrnHeap$Line;" ∈ gT_ := gm_ 403 (by decide +kernel)
theorem w_397 : Cond.fieldLink "UrnHeap" 19 "UrnHeap" "refusals" "LUrnHeap$Refusals;" ∈ gT_ := gm_ 397 (by decide +kernel)
theorem w_238 : Cond.fieldLink "UrnHeap" 226 "UrnHeap$Refusals" "reason" "I" ∈ gT_ := gm_ 238 (by decide +kernel)
theorem w_240 : Cond.fieldLink "UrnHeap" 223 "UrnHeap$Refusals" "detail" "I" ∈ gT_ := gm_ 240 (by decide +kernel)
theorem w_180 : Cond.fieldLink "UrnHeap" 229 "UrnHeap$Heap" "roundsOver" "I" ∈ gT_ := gm_ 180 (by decide +kernel)
theorem w_172 : Cond.fieldLink "UrnHeap" 232 "UrnHeap$Heap" "phase" "I" ∈ gT_ := gm_ 172 (by decide +kernel)
theorem w_176 : Cond.fieldLink "UrnHeap" 235 "UrnHeap$Heap" "nextSwept" "I" ∈ gT_ := gm_ 176 (by decide +kernel)
theorem w_1079 : Cond.methodLink "UrnHeap" 238 yX2_urns ∈ gT_ := gm_ 1079 (by decide +kernel)
theorem w_1087 : Cond.methodLink "UrnHeap" 241 yX2_urnsOf ∈ gT_ := gm_ 1087 (by decide +kernel)
theorem w_183 : Cond.fieldLink "UrnHeap" 244 "UrnHeap$Heap" "urnsMade" "I" ∈ gT_ := gm_ 183 (by decide +kernel)
theorem w_186 : Cond.fieldLink "UrnHeap" 247 "UrnHeap$Heap" "urnsFreed" "I" ∈ gT_ := gm_ 186 (by decide +kernel)
theorem w_125 : Cond.fieldLink "UrnHeap" 250 "UrnHeap$Row" "size" "I" ∈ gT_ := gm_ 125 (by decide +kernel)
theorem w_189 : Cond.fieldLink "UrnHeap" 253 "UrnHeap$Heap" "ritesDone" "I" ∈ gT_ := gm_ 189 (by decide +kernel)
theorem w_192 : Cond.fieldLink "UrnHeap" 256 "UrnHeap$Heap" "weaksCut" "I" ∈ gT_ := gm_ 192 (by decide +kernel)
theorem w_1088 : Cond.methodLink "UrnHeap" 259 yX2_namesInUse ∈ gT_ := gm_ 1088 (by decide +kernel)
theorem w_195 : Cond.fieldLink "UrnHeap" 262 "UrnHeap$Heap" "partsDone" "I" ∈ gT_ := gm_ 195 (by decide +kernel)
theorem w_1100 : Cond.methodLink "UrnHeap" 271 yX2_isSound ∈ gT_ := gm_ 1100 (by decide +kernel)
theorem w_1117 : Cond.methodLink "UrnHeap" 275 yX2_holdersOfAll ∈ gT_ := gm_ 1117 (by decide +kernel)
theorem w_1126 : Cond.methodLink "UrnHeap" 278 yJ6_bitCount_0f7a4 ∈ gT_ := gm_ 1126 (by decide +kernel)
theorem w_1136 : Cond.methodLink "UrnHeap" 283 yX3_undoLatest ∈ gT_ := gm_ 1136 (by decide +kernel)
theorem w_1145 : Cond.methodLink "UrnHeap" 286 yX3_saveNow ∈ gT_ := gm_ 1145 (by decide +kernel)
theorem w_1154 : Cond.methodLink "UrnHeap" 289 yX3_restoreSaved ∈ gT_ := gm_ 1154 (by decide +kernel)
theorem w_358 : Cond.fieldLink "UrnHeap" 295 "UrnHeap$Orders" "firsts" "[I" ∈ gT_ := gm_ 358 (by decide +kernel)
theorem w_360 : Cond.fieldLink "UrnHeap" 298 "UrnHeap$Orders" "seconds" "[I" ∈ gT_ := gm_ 360 (by decide +kernel)
theorem w_982 : Cond.fieldLink "UrnHeap" 301 "UrnHeap$1" "$SwitchMap$UrnHeap$Kind" "[I" ∈ gT_ := gm_ 982 (by decide +kernel)
theorem w_356 : Cond.fieldLink "UrnHeap" 306 "UrnHeap$Orders" "kinds" "[LUrnHeap$Kind;" ∈ gT_ := gm_ 356 (by decide +kernel)
theorem w_80 : Cond.initialized "UrnHeap$Refusals" ∈ gT_ := gm_ 80 (by decide +kernel)
theorem w_456 : Cond.code yX8_refuse cX8_refuse 3 (some .int) ∈ gT_ := gm_ 456 (by decide +kernel)
theorem w_454 : Cond.instanceMethod yX8_refuse ∈ gT_ := gm_ 454 (by decide +kernel)
theorem w_455 : Cond.selects "UrnHeap$Refusals" yX8_refuse yX8_refuse ∈ gT_ := gm_ 455 (by decide +kernel)
theorem w_81 : Cond.initialized "UrnHeap$Hands" ∈ gT_ := gm_ 81 (by decide +kernel)
theorem w_452 : Cond.code yX1_colourOfNew cX1_colourOfNew 3 (some .int) ∈ gT_ := gm_ 452 (by decide +kernel)
theorem w_451 : Cond.instanceMethod yX1_colourOfNew ∈ gT_ := gm_ 451 (by decide +kernel)
theorem w_0 : Cond.selects "UrnHeap$Hands" yX1_colourOfNew yX1_colourOfNew ∈ gT_ := gm_ 0 (by decide +kernel)
theorem w_77 : Cond.initialized "UrnHeap$Heap" ∈ gT_ := gm_ 77 (by decide +kernel)
theorem w_448 : Cond.code yX2_hasUrn cX2_hasUrn 2 (some .boolean) ∈ gT_ := gm_ 448 (by decide +kernel)
theorem w_446 : Cond.instanceMethod yX2_hasUrn ∈ gT_ := gm_ 446 (by decide +kernel)
theorem w_447 : Cond.selects "UrnHeap$Heap" yX2_hasUrn yX2_hasUrn ∈ gT_ := gm_ 447 (by decide +kernel)
theorem w_76 : Cond.initialized "UrnHeap" ∈ gT_ := gm_ 76 (by decide +kernel)
theorem w_477 : Cond.code yX11_isSlot cX11_isSlot 1 (some .boolean) ∈ gT_ := gm_ 477 (by decide +kernel)
theorem w_476 : Cond.static yX11_isSlot ∈ gT_ := gm_ 476 (by decide +kernel)
theorem w_485 : Cond.code yX2_isWhite cX2_isWhite 2 (some .boolean) ∈ gT_ := gm_ 485 (by decide +kernel)
theorem w_483 : Cond.instanceMethod yX2_isWhite ∈ gT_ := gm_ 483 (by decide +kernel)
theorem w_484 : Cond.selects "UrnHeap$Heap" yX2_isWhite yX2_isWhite ∈ gT_ := gm_ 484 (by decide +kernel)
theorem w_481 : Cond.code yX2_isToBeSwept cX2_isToBeSwept 2 (some .boolean) ∈ gT_ := gm_ 481 (by decide +kernel)
theorem w_479 : Cond.instanceMethod yX2_isToBeSwept ∈ gT_ := gm_ 479 (by decide +kernel)
theorem w_480 : Cond.selects "UrnHeap$Heap" yX2_isToBeSwept yX2_isToBeSwept ∈ gT_ := gm_ 480 (by decide +kernel)
theorem w_492 : Cond.code yX11_isCell cX11_isCell 1 (some .boolean) ∈ gT_ := gm_ 492 (by decide +kernel)
theorem w_491 : Cond.static yX11_isCell ∈ gT_ := gm_ 491 (by decide +kernel)
theorem w_489 : Cond.code yX2_target cX2_target 3 (some .int) ∈ gT_ := gm_ 489 (by decide +kernel)
theorem w_487 : Cond.instanceMethod yX2_target ∈ gT_ := gm_ 487 (by decide +kernel)
theorem w_488 : Cond.selects "UrnHeap$Heap" yX2_target yX2_target ∈ gT_ := gm_ 488 (by decide +kernel)
theorem w_78 : Cond.initialized "UrnHeap$Row" ∈ gT_ := gm_ 78 (by decide +kernel)
theorem w_505 : Cond.code yX9_addLast cX9_addLast 2 none ∈ gT_ := gm_ 505 (by decide +kernel)
theorem w_503 : Cond.instanceMethod yX9_addLast ∈ gT_ := gm_ 503 (by decide +kernel)
theorem w_504 : Cond.selects "UrnHeap$Row" yX9_addLast yX9_addLast ∈ gT_ := gm_ 504 (by decide +kernel)
theorem w_501 : Cond.code yX2_makeGrey cX2_makeGrey 2 none ∈ gT_ := gm_ 501 (by decide +kernel)
theorem w_499 : Cond.instanceMethod yX2_makeGrey ∈ gT_ := gm_ 499 (by decide +kernel)
theorem w_500 : Cond.selects "UrnHeap$Heap" yX2_makeGrey yX2_makeGrey ∈ gT_ := gm_ 500 (by decide +kernel)
theorem w_497 : Cond.code yX2_makeGreyInRound cX2_makeGreyInRound 2 none ∈ gT_ := gm_ 497 (by decide +kernel)
theorem w_495 : Cond.instanceMethod yX2_makeGreyInRound ∈ gT_ := gm_ 495 (by decide +kernel)
theorem w_496 : Cond.selects "UrnHeap$Heap" yX2_makeGreyInRound yX2_makeGreyInRound ∈ gT_ := gm_ 496 (by decide +kernel)
theorem w_540 : Cond.code yX11_isName cX11_isName 1 (some .boolean) ∈ gT_ := gm_ 540 (by decide +kernel)
theorem w_539 : Cond.static yX11_isName ∈ gT_ := gm_ 539 (by decide +kernel)
theorem w_1086 : Cond.code yX2_urnsOf cX2_urnsOf 4 (some .int) ∈ gT_ := gm_ 1086 (by decide +kernel)
theorem w_1084 : Cond.instanceMethod yX2_urnsOf ∈ gT_ := gm_ 1084 (by decide +kernel)
theorem w_1085 : Cond.selects "UrnHeap$Heap" yX2_urnsOf yX2_urnsOf ∈ gT_ := gm_ 1085 (by decide +kernel)
theorem w_562 : Cond.code yX2_holdersOf cX2_holdersOf 4 (some .int) ∈ gT_ := gm_ 562 (by decide +kernel)
theorem w_560 : Cond.instanceMethod yX2_holdersOf ∈ gT_ := gm_ 560 (by decide +kernel)
theorem w_561 : Cond.selects "UrnHeap$Heap" yX2_holdersOf yX2_holdersOf ∈ gT_ := gm_ 561 (by decide +kernel)
theorem w_1082 : Cond.code yX2_urns cX2_urns 1 (some .int) ∈ gT_ := gm_ 1082 (by decide +kernel)
theorem w_1080 : Cond.instanceMethod yX2_urns ∈ gT_ := gm_ 1080 (by decide +kernel)
theorem w_1081 : Cond.selects "UrnHeap$Heap" yX2_urns yX2_urns ∈ gT_ := gm_ 1081 (by decide +kernel)
theorem w_1108 : Cond.code yX2_areUrns cX2_areUrns 6 (some .boolean) ∈ gT_ := gm_ 1108 (by decide +kernel)
theorem w_1107 : Cond.instanceMethod yX2_areUrns ∈ gT_ := gm_ 1107 (by decide +kernel)
theorem w_23 : Cond.selects "UrnHeap$Heap" yX2_areUrns yX2_areUrns ∈ gT_ := gm_ 23 (by decide +kernel)
theorem w_1112 : Cond.code yX2_hasBlackToWhite cX2_hasBlackToWhite 2 (some .boolean) ∈ gT_ := gm_ 1112 (by decide +kernel)
theorem w_1111 : Cond.instanceMethod yX2_hasBlackToWhite ∈ gT_ := gm_ 1111 (by decide +kernel)
theorem w_24 : Cond.selects "UrnHeap$Heap" yX2_hasBlackToWhite yX2_hasBlackToWhite ∈ gT_ := gm_ 24 (by decide +kernel)
theorem w_439 : Cond.code yX9_copyFrom cX9_copyFrom 2 none ∈ gT_ := gm_ 439 (by decide +kernel)
theorem w_437 : Cond.instanceMethod yX9_copyFrom ∈ gT_ := gm_ 437 (by decide +kernel)
theorem w_438 : Cond.selects "UrnHeap$Row" yX9_copyFrom yX9_copyFrom ∈ gT_ := gm_ 438 (by decide +kernel)
theorem w_432 : Cond.code yX2_copyFrom cX2_copyFrom 2 none ∈ gT_ := gm_ 432 (by decide +kernel)
theorem w_430 : Cond.instanceMethod yX2_copyFrom ∈ gT_ := gm_ 430 (by decide +kernel)
theorem w_431 : Cond.selects "UrnHeap$Heap" yX2_copyFrom yX2_copyFrom ∈ gT_ := gm_ 431 (by decide +kernel)
theorem w_84 : Cond.initialized "UrnHeap$History" ∈ gT_ := gm_ 84 (by decide +kernel)
theorem w_463 : Cond.code yX3_isRefusal cX3_isRefusal 1 (some .boolean) ∈ gT_ := gm_ 463 (by decide +kernel)
theorem w_462 : Cond.static yX3_isRefusal ∈ gT_ := gm_ 462 (by decide +kernel)
theorem w_994 : Cond.code yX3_takeBack cX3_takeBack 2 none ∈ gT_ := gm_ 994 (by decide +kernel)
theorem w_992 : Cond.instanceMethod yX3_takeBack ∈ gT_ := gm_ 992 (by decide +kernel)
theorem w_993 : Cond.selects "UrnHeap$History" yX3_takeBack yX3_takeBack ∈ gT_ := gm_ 993 (by decide +kernel)
theorem w_85 : Cond.initialized "UrnHeap$Orders" ∈ gT_ := gm_ 85 (by decide +kernel)
theorem w_948 : Cond.code yX6_keep cX6_keep 2 none ∈ gT_ := gm_ 948 (by decide +kernel)
theorem w_947 : Cond.instanceMethod yX6_keep ∈ gT_ := gm_ 947 (by decide +kernel)
theorem w_19 : Cond.selects "UrnHeap$Orders" yX6_keep yX6_keep ∈ gT_ := gm_ 19 (by decide +kernel)
theorem w_83 : Cond.initialized "UrnHeap$Paths" ∈ gT_ := gm_ 83 (by decide +kernel)
theorem w_686 : Cond.code yX7_bit cX7_bit 1 (some .int) ∈ gT_ := gm_ 686 (by decide +kernel)
theorem w_685 : Cond.static yX7_bit ∈ gT_ := gm_ 685 (by decide +kernel)
theorem w_682 : Cond.code yX7_rootsByRite cX7_rootsByRite 4 (some .int) ∈ gT_ := gm_ 682 (by decide +kernel)
theorem w_681 : Cond.instanceMethod yX7_rootsByRite ∈ gT_ := gm_ 681 (by decide +kernel)
theorem w_7 : Cond.selects "UrnHeap$Paths" yX7_rootsByRite yX7_rootsByRite ∈ gT_ := gm_ 7 (by decide +kernel)
theorem w_678 : Cond.code yX7_roots cX7_roots 4 (some .int) ∈ gT_ := gm_ 678 (by decide +kernel)
theorem w_676 : Cond.instanceMethod yX7_roots ∈ gT_ := gm_ 676 (by decide +kernel)
theorem w_677 : Cond.selects "UrnHeap$Paths" yX7_roots yX7_roots ∈ gT_ := gm_ 677 (by decide +kernel)
theorem w_698 : Cond.code yX7_isIn cX7_isIn 2 (some .boolean) ∈ gT_ := gm_ 698 (by decide +kernel)
theorem w_697 : Cond.static yX7_isIn ∈ gT_ := gm_ 697 (by decide +kernel)
theorem w_702 : Cond.code yX7_targets cX7_targets 4 (some .int) ∈ gT_ := gm_ 702 (by decide +kernel)
theorem w_701 : Cond.instanceMethod yX7_targets ∈ gT_ := gm_ 701 (by decide +kernel)
theorem w_10 : Cond.selects "UrnHeap$Paths" yX7_targets yX7_targets ∈ gT_ := gm_ 10 (by decide +kernel)
theorem w_695 : Cond.code yX7_targetsOfAll cX7_targetsOfAll 4 (some .int) ∈ gT_ := gm_ 695 (by decide +kernel)
theorem w_694 : Cond.instanceMethod yX7_targetsOfAll ∈ gT_ := gm_ 694 (by decide +kernel)
theorem w_9 : Cond.selects "UrnHeap$Paths" yX7_targetsOfAll yX7_targetsOfAll ∈ gT_ := gm_ 9 (by decide +kernel)
theorem w_691 : Cond.code yX7_reachFrom cX7_reachFrom 5 (some .int) ∈ gT_ := gm_ 691 (by decide +kernel)
theorem w_690 : Cond.instanceMethod yX7_reachFrom ∈ gT_ := gm_ 690 (by decide +kernel)
theorem w_8 : Cond.selects "UrnHeap$Paths" yX7_reachFrom yX7_reachFrom ∈ gT_ := gm_ 8 (by decide +kernel)
theorem w_715 : Cond.code yX7_isHeldBySome cX7_isHeldBySome 4 (some .boolean) ∈ gT_ := gm_ 715 (by decide +kernel)
theorem w_714 : Cond.instanceMethod yX7_isHeldBySome ∈ gT_ := gm_ 714 (by decide +kernel)
theorem w_11 : Cond.selects "UrnHeap$Paths" yX7_isHeldBySome yX7_isHeldBySome ∈ gT_ := gm_ 11 (by decide +kernel)
theorem w_674 : Cond.code yX7_reach cX7_reach 1 (some .int) ∈ gT_ := gm_ 674 (by decide +kernel)
theorem w_672 : Cond.instanceMethod yX7_reach ∈ gT_ := gm_ 672 (by decide +kernel)
theorem w_673 : Cond.selects "UrnHeap$Paths" yX7_reach yX7_reach ∈ gT_ := gm_ 673 (by decide +kernel)
theorem w_724 : Cond.code yX7_distance cX7_distance 6 (some .int) ∈ gT_ := gm_ 724 (by decide +kernel)
theorem w_722 : Cond.instanceMethod yX7_distance ∈ gT_ := gm_ 722 (by decide +kernel)
theorem w_723 : Cond.selects "UrnHeap$Paths" yX7_distance yX7_distance ∈ gT_ := gm_ 723 (by decide +kernel)
theorem w_557 : Cond.code yX2_threadsFrom cX2_threadsFrom 4 (some .int) ∈ gT_ := gm_ 557 (by decide +kernel)
theorem w_555 : Cond.instanceMethod yX2_threadsFrom ∈ gT_ := gm_ 555 (by decide +kernel)
theorem w_556 : Cond.selects "UrnHeap$Heap" yX2_threadsFrom yX2_threadsFrom ∈ gT_ := gm_ 556 (by decide +kernel)
theorem w_762 : Cond.code yX7_weighAll cX7_weighAll 4 none ∈ gT_ := gm_ 762 (by decide +kernel)
theorem w_761 : Cond.instanceMethod yX7_weighAll ∈ gT_ := gm_ 761 (by decide +kernel)
theorem w_12 : Cond.selects "UrnHeap$Paths" yX7_weighAll yX7_weighAll ∈ gT_ := gm_ 12 (by decide +kernel)
theorem w_768 : Cond.code yX7_heavierThan cX7_heavierThan 7 (some .int) ∈ gT_ := gm_ 768 (by decide +kernel)
theorem w_767 : Cond.instanceMethod yX7_heavierThan ∈ gT_ := gm_ 767 (by decide +kernel)
theorem w_13 : Cond.selects "UrnHeap$Paths" yX7_heavierThan yX7_heavierThan ∈ gT_ := gm_ 13 (by decide +kernel)
theorem w_591 : Cond.code yX9_at cX9_at 2 (some .int) ∈ gT_ := gm_ 591 (by decide +kernel)
theorem w_589 : Cond.instanceMethod yX9_at ∈ gT_ := gm_ 589 (by decide +kernel)
theorem w_590 : Cond.selects "UrnHeap$Row" yX9_at yX9_at ∈ gT_ := gm_ 590 (by decide +kernel)
theorem w_82 : Cond.initialized "UrnHeap$Sexton" ∈ gT_ := gm_ 82 (by decide +kernel)
theorem w_586 : Cond.code yX10_markRoots cX10_markRoots 2 none ∈ gT_ := gm_ 586 (by decide +kernel)
theorem w_585 : Cond.instanceMethod yX10_markRoots ∈ gT_ := gm_ 585 (by decide +kernel)
theorem w_1 : Cond.selects "UrnHeap$Sexton" yX10_markRoots yX10_markRoots ∈ gT_ := gm_ 1 (by decide +kernel)
theorem w_628 : Cond.code yX10_makeRitesDue cX10_makeRitesDue 3 (some .boolean) ∈ gT_ := gm_ 628 (by decide +kernel)
theorem w_627 : Cond.instanceMethod yX10_makeRitesDue ∈ gT_ := gm_ 627 (by decide +kernel)
theorem w_5 : Cond.selects "UrnHeap$Sexton" yX10_makeRitesDue yX10_makeRitesDue ∈ gT_ := gm_ 5 (by decide +kernel)
theorem w_633 : Cond.code yX10_beginSweep cX10_beginSweep 2 none ∈ gT_ := gm_ 633 (by decide +kernel)
theorem w_632 : Cond.instanceMethod yX10_beginSweep ∈ gT_ := gm_ 632 (by decide +kernel)
theorem w_6 : Cond.selects "UrnHeap$Sexton" yX10_beginSweep yX10_beginSweep ∈ gT_ := gm_ 6 (by decide +kernel)
theorem w_622 : Cond.code yX9_takeFirst cX9_takeFirst 2 (some .int) ∈ gT_ := gm_ 622 (by decide +kernel)
theorem w_620 : Cond.instanceMethod yX9_takeFirst ∈ gT_ := gm_ 620 (by decide +kernel)
theorem w_621 : Cond.selects "UrnHeap$Row" yX9_takeFirst yX9_takeFirst ∈ gT_ := gm_ 621 (by decide +kernel)
theorem w_618 : Cond.code yX10_blackenFirst cX10_blackenFirst 3 none ∈ gT_ := gm_ 618 (by decide +kernel)
theorem w_617 : Cond.instanceMethod yX10_blackenFirst ∈ gT_ := gm_ 617 (by decide +kernel)
theorem w_4 : Cond.selects "UrnHeap$Sexton" yX10_blackenFirst yX10_blackenFirst ∈ gT_ := gm_ 4 (by decide +kernel)
theorem w_612 : Cond.code yX2_free cX2_free 3 none ∈ gT_ := gm_ 612 (by decide +kernel)
theorem w_610 : Cond.instanceMethod yX2_free ∈ gT_ := gm_ 610 (by decide +kernel)
theorem w_611 : Cond.selects "UrnHeap$Heap" yX2_free yX2_free ∈ gT_ := gm_ 611 (by decide +kernel)
theorem w_607 : Cond.code yX10_sweepNext cX10_sweepNext 2 none ∈ gT_ := gm_ 607 (by decide +kernel)
theorem w_606 : Cond.instanceMethod yX10_sweepNext ∈ gT_ := gm_ 606 (by decide +kernel)
theorem w_3 : Cond.selects "UrnHeap$Sexton" yX10_sweepNext yX10_sweepNext ∈ gT_ := gm_ 3 (by decide +kernel)
theorem w_603 : Cond.code yX10_doPartsUntilOver cX10_doPartsUntilOver 3 (some .int) ∈ gT_ := gm_ 603 (by decide +kernel)
theorem w_602 : Cond.instanceMethod yX10_doPartsUntilOver ∈ gT_ := gm_ 602 (by decide +kernel)
theorem w_2 : Cond.selects "UrnHeap$Sexton" yX10_doPartsUntilOver yX10_doPartsUntilOver ∈ gT_ := gm_ 2 (by decide +kernel)
theorem w_428 : Cond.code yX3_keepBefore cX3_keepBefore 2 none ∈ gT_ := gm_ 428 (by decide +kernel)
theorem w_426 : Cond.instanceMethod yX3_keepBefore ∈ gT_ := gm_ 426 (by decide +kernel)
theorem w_427 : Cond.selects "UrnHeap$History" yX3_keepBefore yX3_keepBefore ∈ gT_ := gm_ 427 (by decide +kernel)
theorem w_444 : Cond.code yX1_makeUrn cX1_makeUrn 3 (some .int) ∈ gT_ := gm_ 444 (by decide +kernel)
theorem w_442 : Cond.instanceMethod yX1_makeUrn ∈ gT_ := gm_ 442 (by decide +kernel)
theorem w_443 : Cond.selects "UrnHeap$Hands" yX1_makeUrn yX1_makeUrn ∈ gT_ := gm_ 443 (by decide +kernel)
theorem w_460 : Cond.code yX3_settle cX3_settle 2 (some .int) ∈ gT_ := gm_ 460 (by decide +kernel)
theorem w_458 : Cond.instanceMethod yX3_settle ∈ gT_ := gm_ 458 (by decide +kernel)
theorem w_459 : Cond.selects "UrnHeap$History" yX3_settle yX3_settle ∈ gT_ := gm_ 459 (by decide +kernel)
theorem w_474 : Cond.code yX1_tieThread cX1_tieThread 5 (some .int) ∈ gT_ := gm_ 474 (by decide +kernel)
theorem w_472 : Cond.instanceMethod yX1_tieThread ∈ gT_ := gm_ 472 (by decide +kernel)
theorem w_473 : Cond.selects "UrnHeap$Hands" yX1_tieThread yX1_tieThread ∈ gT_ := gm_ 473 (by decide +kernel)
theorem w_513 : Cond.code yX1_takeThread cX1_takeThread 4 (some .int) ∈ gT_ := gm_ 513 (by decide +kernel)
theorem w_511 : Cond.instanceMethod yX1_takeThread ∈ gT_ := gm_ 511 (by decide +kernel)
theorem w_512 : Cond.selects "UrnHeap$Hands" yX1_takeThread yX1_takeThread ∈ gT_ := gm_ 512 (by decide +kernel)
theorem w_521 : Cond.code yX1_tieWeak cX1_tieWeak 4 (some .int) ∈ gT_ := gm_ 521 (by decide +kernel)
theorem w_519 : Cond.instanceMethod yX1_tieWeak ∈ gT_ := gm_ 519 (by decide +kernel)
theorem w_520 : Cond.selects "UrnHeap$Hands" yX1_tieWeak yX1_tieWeak ∈ gT_ := gm_ 520 (by decide +kernel)
theorem w_529 : Cond.code yX1_takeWeak cX1_takeWeak 3 (some .int) ∈ gT_ := gm_ 529 (by decide +kernel)
theorem w_527 : Cond.instanceMethod yX1_takeWeak ∈ gT_ := gm_ 527 (by decide +kernel)
theorem w_528 : Cond.selects "UrnHeap$Hands" yX1_takeWeak yX1_takeWeak ∈ gT_ := gm_ 528 (by decide +kernel)
theorem w_537 : Cond.code yX1_giveName cX1_giveName 4 (some .int) ∈ gT_ := gm_ 537 (by decide +kernel)
theorem w_535 : Cond.instanceMethod yX1_giveName ∈ gT_ := gm_ 535 (by decide +kernel)
theorem w_536 : Cond.selects "UrnHeap$Hands" yX1_giveName yX1_giveName ∈ gT_ := gm_ 536 (by decide +kernel)
theorem w_548 : Cond.code yX1_takeName cX1_takeName 3 (some .int) ∈ gT_ := gm_ 548 (by decide +kernel)
theorem w_546 : Cond.instanceMethod yX1_takeName ∈ gT_ := gm_ 546 (by decide +kernel)
theorem w_547 : Cond.selects "UrnHeap$Hands" yX1_takeName yX1_takeName ∈ gT_ := gm_ 547 (by decide +kernel)
theorem w_581 : Cond.code yX10_beginRound cX10_beginRound 1 (some .int) ∈ gT_ := gm_ 581 (by decide +kernel)
theorem w_579 : Cond.instanceMethod yX10_beginRound ∈ gT_ := gm_ 579 (by decide +kernel)
theorem w_580 : Cond.selects "UrnHeap$Sexton" yX10_beginRound yX10_beginRound ∈ gT_ := gm_ 580 (by decide +kernel)
theorem w_599 : Cond.code yX10_doParts cX10_doParts 2 (some .int) ∈ gT_ := gm_ 599 (by decide +kernel)
theorem w_597 : Cond.instanceMethod yX10_doParts ∈ gT_ := gm_ 597 (by decide +kernel)
theorem w_598 : Cond.selects "UrnHeap$Sexton" yX10_doParts yX10_doParts ∈ gT_ := gm_ 598 (by decide +kernel)
theorem w_641 : Cond.code yX10_endRound cX10_endRound 2 (some .int) ∈ gT_ := gm_ 641 (by decide +kernel)
theorem w_639 : Cond.instanceMethod yX10_endRound ∈ gT_ := gm_ 639 (by decide +kernel)
theorem w_640 : Cond.selects "UrnHeap$Sexton" yX10_endRound yX10_endRound ∈ gT_ := gm_ 640 (by decide +kernel)
theorem w_649 : Cond.code yX10_doRite cX10_doRite 2 (some .int) ∈ gT_ := gm_ 649 (by decide +kernel)
theorem w_647 : Cond.instanceMethod yX10_doRite ∈ gT_ := gm_ 647 (by decide +kernel)
theorem w_648 : Cond.selects "UrnHeap$Sexton" yX10_doRite yX10_doRite ∈ gT_ := gm_ 648 (by decide +kernel)
theorem w_666 : Cond.code yX2_freedLate cX2_freedLate 2 (some .int) ∈ gT_ := gm_ 666 (by decide +kernel)
theorem w_664 : Cond.instanceMethod yX2_freedLate ∈ gT_ := gm_ 664 (by decide +kernel)
theorem w_665 : Cond.selects "UrnHeap$Heap" yX2_freedLate yX2_freedLate ∈ gT_ := gm_ 665 (by decide +kernel)
theorem w_711 : Cond.code yX7_reachUrnByUrn cX7_reachUrnByUrn 5 (some .int) ∈ gT_ := gm_ 711 (by decide +kernel)
theorem w_709 : Cond.instanceMethod yX7_reachUrnByUrn ∈ gT_ := gm_ 709 (by decide +kernel)
theorem w_710 : Cond.selects "UrnHeap$Paths" yX7_reachUrnByUrn yX7_reachUrnByUrn ∈ gT_ := gm_ 710 (by decide +kernel)
theorem w_732 : Cond.code yX7_neededNames cX7_neededNames 4 (some .int) ∈ gT_ := gm_ 732 (by decide +kernel)
theorem w_730 : Cond.instanceMethod yX7_neededNames ∈ gT_ := gm_ 730 (by decide +kernel)
theorem w_731 : Cond.selects "UrnHeap$Paths" yX7_neededNames yX7_neededNames ∈ gT_ := gm_ 731 (by decide +kernel)
theorem w_741 : Cond.code yX7_ringLength cX7_ringLength 3 (some .int) ∈ gT_ := gm_ 741 (by decide +kernel)
theorem w_739 : Cond.instanceMethod yX7_ringLength ∈ gT_ := gm_ 739 (by decide +kernel)
theorem w_740 : Cond.selects "UrnHeap$Paths" yX7_ringLength yX7_ringLength ∈ gT_ := gm_ 740 (by decide +kernel)
theorem w_750 : Cond.code yX7_leftOver cX7_leftOver 4 (some .int) ∈ gT_ := gm_ 750 (by decide +kernel)
theorem w_748 : Cond.instanceMethod yX7_leftOver ∈ gT_ := gm_ 748 (by decide +kernel)
theorem w_749 : Cond.selects "UrnHeap$Paths" yX7_leftOver yX7_leftOver ∈ gT_ := gm_ 749 (by decide +kernel)
theorem w_758 : Cond.code yX7_urnAtRank cX7_urnAtRank 3 (some .int) ∈ gT_ := gm_ 758 (by decide +kernel)
theorem w_756 : Cond.instanceMethod yX7_urnAtRank ∈ gT_ := gm_ 756 (by decide +kernel)
theorem w_757 : Cond.selects "UrnHeap$Paths" yX7_urnAtRank yX7_urnAtRank ∈ gT_ := gm_ 757 (by decide +kernel)
theorem w_1091 : Cond.code yX2_namesInUse cX2_namesInUse 3 (some .int) ∈ gT_ := gm_ 1091 (by decide +kernel)
theorem w_1089 : Cond.instanceMethod yX2_namesInUse ∈ gT_ := gm_ 1089 (by decide +kernel)
theorem w_1090 : Cond.selects "UrnHeap$Heap" yX2_namesInUse yX2_namesInUse ∈ gT_ := gm_ 1090 (by decide +kernel)
theorem w_1103 : Cond.code yX2_isSound cX2_isSound 1 (some .boolean) ∈ gT_ := gm_ 1103 (by decide +kernel)
theorem w_1101 : Cond.instanceMethod yX2_isSound ∈ gT_ := gm_ 1101 (by decide +kernel)
theorem w_1102 : Cond.selects "UrnHeap$Heap" yX2_isSound yX2_isSound ∈ gT_ := gm_ 1102 (by decide +kernel)
theorem w_1120 : Cond.code yX2_holdersOfAll cX2_holdersOfAll 3 (some .int) ∈ gT_ := gm_ 1120 (by decide +kernel)
theorem w_1118 : Cond.instanceMethod yX2_holdersOfAll ∈ gT_ := gm_ 1118 (by decide +kernel)
theorem w_1119 : Cond.selects "UrnHeap$Heap" yX2_holdersOfAll yX2_holdersOfAll ∈ gT_ := gm_ 1119 (by decide +kernel)
theorem w_1139 : Cond.code yX3_undoLatest cX3_undoLatest 1 (some .int) ∈ gT_ := gm_ 1139 (by decide +kernel)
theorem w_1137 : Cond.instanceMethod yX3_undoLatest ∈ gT_ := gm_ 1137 (by decide +kernel)
theorem w_1138 : Cond.selects "UrnHeap$History" yX3_undoLatest yX3_undoLatest ∈ gT_ := gm_ 1138 (by decide +kernel)
theorem w_1148 : Cond.code yX3_saveNow cX3_saveNow 1 (some .int) ∈ gT_ := gm_ 1148 (by decide +kernel)
theorem w_1146 : Cond.instanceMethod yX3_saveNow ∈ gT_ := gm_ 1146 (by decide +kernel)
theorem w_1147 : Cond.selects "UrnHeap$History" yX3_saveNow yX3_saveNow ∈ gT_ := gm_ 1147 (by decide +kernel)
theorem w_1157 : Cond.code yX3_restoreSaved cX3_restoreSaved 1 (some .int) ∈ gT_ := gm_ 1157 (by decide +kernel)
theorem w_1155 : Cond.instanceMethod yX3_restoreSaved ∈ gT_ := gm_ 1155 (by decide +kernel)
theorem w_1156 : Cond.selects "UrnHeap$History" yX3_restoreSaved yX3_restoreSaved ∈ gT_ := gm_ 1156 (by decide +kernel)
theorem w_981 : Cond.code yX6_has cX6_has 2 (some .boolean) ∈ gT_ := gm_ 981 (by decide +kernel)
theorem w_979 : Cond.instanceMethod yX6_has ∈ gT_ := gm_ 979 (by decide +kernel)
theorem w_980 : Cond.selects "UrnHeap$Orders" yX6_has yX6_has ∈ gT_ := gm_ 980 (by decide +kernel)
theorem ca_X8_refuse : ca_ yX8_refuse cX8_refuse 3 (some .int) 2 := ⟨w_80, w_456, by decide, by decide, by decide +kernel⟩
theorem cv_X8_refuse : cv_ yX8_refuse := ⟨w_454, w_455⟩
theorem ca_X1_colourOfNew : ca_ yX1_colourOfNew cX1_colourOfNew 3 (some .int) 1 := ⟨w_81, w_452, by decide, by decide, by decide +kernel⟩
theorem cv_X1_colourOfNew : cv_ yX1_colourOfNew := ⟨w_451, w_0⟩
theorem ca_X2_hasUrn : ca_ yX2_hasUrn cX2_hasUrn 2 (some .boolean) 1 := ⟨w_77, w_448, by decide, by decide, by decide +kernel⟩
theorem cv_X2_hasUrn : cv_ yX2_hasUrn := ⟨w_446, w_447⟩
theorem ca_X11_isSlot : ca_ yX11_isSlot cX11_isSlot 1 (some .boolean) 1 := ⟨w_76, w_477, by decide, by decide, by decide +kernel⟩
theorem cs_X11_isSlot : Cond.static yX11_isSlot ∈ gT_ := w_476
theorem ca_X2_isWhite : ca_ yX2_isWhite cX2_isWhite 2 (some .boolean) 1 := ⟨w_77, w_485, by decide, by decide, by decide +kernel⟩
theorem cv_X2_isWhite : cv_ yX2_isWhite := ⟨w_483, w_484⟩
theorem ca_X2_isToBeSwept : ca_ yX2_isToBeSwept cX2_isToBeSwept 2 (some .boolean) 1 := ⟨w_77, w_481, by decide, by decide, by decide +kernel⟩
theorem cv_X2_isToBeSwept : cv_ yX2_isToBeSwept := ⟨w_479, w_480⟩
theorem ca_X11_isCell : ca_ yX11_isCell cX11_isCell 1 (some .boolean) 1 := ⟨w_76, w_492, by decide, by decide, by decide +kernel⟩
theorem cs_X11_isCell : Cond.static yX11_isCell ∈ gT_ := w_491
theorem ca_X2_target : ca_ yX2_target cX2_target 3 (some .int) 2 := ⟨w_77, w_489, by decide, by decide, by decide +kernel⟩
theorem cv_X2_target : cv_ yX2_target := ⟨w_487, w_488⟩
theorem ca_X9_addLast : ca_ yX9_addLast cX9_addLast 2 none 1 := ⟨w_78, w_505, by decide, by decide, by decide +kernel⟩
theorem cv_X9_addLast : cv_ yX9_addLast := ⟨w_503, w_504⟩
theorem ca_X2_makeGrey : ca_ yX2_makeGrey cX2_makeGrey 2 none 1 := ⟨w_77, w_501, by decide, by decide, by decide +kernel⟩
theorem cv_X2_makeGrey : cv_ yX2_makeGrey := ⟨w_499, w_500⟩
theorem ca_X2_makeGreyInRound : ca_ yX2_makeGreyInRound cX2_makeGreyInRound 2 none 1 := ⟨w_77, w_497, by decide, by decide, by decide +kernel⟩
theorem cv_X2_makeGreyInRound : cv_ yX2_makeGreyInRound := ⟨w_495, w_496⟩
theorem ca_X11_isName : ca_ yX11_isName cX11_isName 1 (some .boolean) 1 := ⟨w_76, w_540, by decide, by decide, by decide +kernel⟩
theorem cs_X11_isName : Cond.static yX11_isName ∈ gT_ := w_539
theorem ca_X2_urnsOf : ca_ yX2_urnsOf cX2_urnsOf 4 (some .int) 1 := ⟨w_77, w_1086, by decide, by decide, by decide +kernel⟩
theorem cv_X2_urnsOf : cv_ yX2_urnsOf := ⟨w_1084, w_1085⟩
theorem ca_X2_holdersOf : ca_ yX2_holdersOf cX2_holdersOf 4 (some .int) 1 := ⟨w_77, w_562, by decide, by decide, by decide +kernel⟩
theorem cv_X2_holdersOf : cv_ yX2_holdersOf := ⟨w_560, w_561⟩
theorem ca_X2_urns : ca_ yX2_urns cX2_urns 1 (some .int) 0 := ⟨w_77, w_1082, by decide, by decide, by decide +kernel⟩
theorem cv_X2_urns : cv_ yX2_urns := ⟨w_1080, w_1081⟩
theorem ca_X2_areUrns : ca_ yX2_areUrns cX2_areUrns 6 (some .boolean) 1 := ⟨w_77, w_1108, by decide, by decide, by decide +kernel⟩
theorem cv_X2_areUrns : cv_ yX2_areUrns := ⟨w_1107, w_23⟩
theorem ca_X2_hasBlackToWhite : ca_ yX2_hasBlackToWhite cX2_hasBlackToWhite 2 (some .boolean) 0 := ⟨w_77, w_1112, by decide, by decide, by decide +kernel⟩
theorem cv_X2_hasBlackToWhite : cv_ yX2_hasBlackToWhite := ⟨w_1111, w_24⟩
theorem ca_X9_copyFrom : ca_ yX9_copyFrom cX9_copyFrom 2 none 1 := ⟨w_78, w_439, by decide, by decide, by decide +kernel⟩
theorem cv_X9_copyFrom : cv_ yX9_copyFrom := ⟨w_437, w_438⟩
theorem ca_X2_copyFrom : ca_ yX2_copyFrom cX2_copyFrom 2 none 1 := ⟨w_77, w_432, by decide, by decide, by decide +kernel⟩
theorem cv_X2_copyFrom : cv_ yX2_copyFrom := ⟨w_430, w_431⟩
theorem ca_X3_isRefusal : ca_ yX3_isRefusal cX3_isRefusal 1 (some .boolean) 1 := ⟨w_84, w_463, by decide, by decide, by decide +kernel⟩
theorem cs_X3_isRefusal : Cond.static yX3_isRefusal ∈ gT_ := w_462
theorem ca_X3_takeBack : ca_ yX3_takeBack cX3_takeBack 2 none 0 := ⟨w_84, w_994, by decide, by decide, by decide +kernel⟩
theorem cv_X3_takeBack : cv_ yX3_takeBack := ⟨w_992, w_993⟩
theorem ca_X6_keep : ca_ yX6_keep cX6_keep 2 none 1 := ⟨w_85, w_948, by decide, by decide, by decide +kernel⟩
theorem cv_X6_keep : cv_ yX6_keep := ⟨w_947, w_19⟩
theorem ca_X7_bit : ca_ yX7_bit cX7_bit 1 (some .int) 1 := ⟨w_83, w_686, by decide, by decide, by decide +kernel⟩
theorem cs_X7_bit : Cond.static yX7_bit ∈ gT_ := w_685
theorem ca_X7_rootsByRite : ca_ yX7_rootsByRite cX7_rootsByRite 4 (some .int) 1 := ⟨w_83, w_682, by decide, by decide, by decide +kernel⟩
theorem cv_X7_rootsByRite : cv_ yX7_rootsByRite := ⟨w_681, w_7⟩
theorem ca_X7_roots : ca_ yX7_roots cX7_roots 4 (some .int) 1 := ⟨w_83, w_678, by decide, by decide, by decide +kernel⟩
theorem cv_X7_roots : cv_ yX7_roots := ⟨w_676, w_677⟩
theorem ca_X7_isIn : ca_ yX7_isIn cX7_isIn 2 (some .boolean) 2 := ⟨w_83, w_698, by decide, by decide, by decide +kernel⟩
theorem cs_X7_isIn : Cond.static yX7_isIn ∈ gT_ := w_697
theorem ca_X7_targets : ca_ yX7_targets cX7_targets 4 (some .int) 1 := ⟨w_83, w_702, by decide, by decide, by decide +kernel⟩
theorem cv_X7_targets : cv_ yX7_targets := ⟨w_701, w_10⟩
theorem ca_X7_targetsOfAll : ca_ yX7_targetsOfAll cX7_targetsOfAll 4 (some .int) 1 := ⟨w_83, w_695, by decide, by decide, by decide +kernel⟩
theorem cv_X7_targetsOfAll : cv_ yX7_targetsOfAll := ⟨w_694, w_9⟩
theorem ca_X7_reachFrom : ca_ yX7_reachFrom cX7_reachFrom 5 (some .int) 1 := ⟨w_83, w_691, by decide, by decide, by decide +kernel⟩
theorem cv_X7_reachFrom : cv_ yX7_reachFrom := ⟨w_690, w_8⟩
theorem ca_X7_isHeldBySome : ca_ yX7_isHeldBySome cX7_isHeldBySome 4 (some .boolean) 2 := ⟨w_83, w_715, by decide, by decide, by decide +kernel⟩
theorem cv_X7_isHeldBySome : cv_ yX7_isHeldBySome := ⟨w_714, w_11⟩
theorem ca_X7_reach : ca_ yX7_reach cX7_reach 1 (some .int) 0 := ⟨w_83, w_674, by decide, by decide, by decide +kernel⟩
theorem cv_X7_reach : cv_ yX7_reach := ⟨w_672, w_673⟩
theorem ca_X7_distance : ca_ yX7_distance cX7_distance 6 (some .int) 2 := ⟨w_83, w_724, by decide, by decide, by decide +kernel⟩
theorem cv_X7_distance : cv_ yX7_distance := ⟨w_722, w_723⟩
theorem ca_X2_threadsFrom : ca_ yX2_threadsFrom cX2_threadsFrom 4 (some .int) 1 := ⟨w_77, w_557, by decide, by decide, by decide +kernel⟩
theorem cv_X2_threadsFrom : cv_ yX2_threadsFrom := ⟨w_555, w_556⟩
theorem ca_X7_weighAll : ca_ yX7_weighAll cX7_weighAll 4 none 0 := ⟨w_83, w_762, by decide, by decide, by decide +kernel⟩
theorem cv_X7_weighAll : cv_ yX7_weighAll := ⟨w_761, w_12⟩
theorem ca_X7_heavierThan : ca_ yX7_heavierThan cX7_heavierThan 7 (some .int) 1 := ⟨w_83, w_768, by decide, by decide, by decide +kernel⟩
theorem cv_X7_heavierThan : cv_ yX7_heavierThan := ⟨w_767, w_13⟩
theorem ca_X9_at : ca_ yX9_at cX9_at 2 (some .int) 1 := ⟨w_78, w_591, by decide, by decide, by decide +kernel⟩
theorem cv_X9_at : cv_ yX9_at := ⟨w_589, w_590⟩
theorem ca_X10_markRoots : ca_ yX10_markRoots cX10_markRoots 2 none 0 := ⟨w_82, w_586, by decide, by decide, by decide +kernel⟩
theorem cv_X10_markRoots : cv_ yX10_markRoots := ⟨w_585, w_1⟩
theorem ca_X10_makeRitesDue : ca_ yX10_makeRitesDue cX10_makeRitesDue 3 (some .boolean) 0 := ⟨w_82, w_628, by decide, by decide, by decide +kernel⟩
theorem cv_X10_makeRitesDue : cv_ yX10_makeRitesDue := ⟨w_627, w_5⟩
theorem ca_X10_beginSweep : ca_ yX10_beginSweep cX10_beginSweep 2 none 0 := ⟨w_82, w_633, by decide, by decide, by decide +kernel⟩
theorem cv_X10_beginSweep : cv_ yX10_beginSweep := ⟨w_632, w_6⟩
theorem ca_X9_takeFirst : ca_ yX9_takeFirst cX9_takeFirst 2 (some .int) 0 := ⟨w_78, w_622, by decide, by decide, by decide +kernel⟩
theorem cv_X9_takeFirst : cv_ yX9_takeFirst := ⟨w_620, w_621⟩
theorem ca_X10_blackenFirst : ca_ yX10_blackenFirst cX10_blackenFirst 3 none 0 := ⟨w_82, w_618, by decide, by decide, by decide +kernel⟩
theorem cv_X10_blackenFirst : cv_ yX10_blackenFirst := ⟨w_617, w_4⟩
theorem ca_X2_free : ca_ yX2_free cX2_free 3 none 1 := ⟨w_77, w_612, by decide, by decide, by decide +kernel⟩
theorem cv_X2_free : cv_ yX2_free := ⟨w_610, w_611⟩
theorem ca_X10_sweepNext : ca_ yX10_sweepNext cX10_sweepNext 2 none 0 := ⟨w_82, w_607, by decide, by decide, by decide +kernel⟩
theorem cv_X10_sweepNext : cv_ yX10_sweepNext := ⟨w_606, w_3⟩
theorem ca_X10_doPartsUntilOver : ca_ yX10_doPartsUntilOver cX10_doPartsUntilOver 3 (some .int) 1 := ⟨w_82, w_603, by decide, by decide, by decide +kernel⟩
theorem cv_X10_doPartsUntilOver : cv_ yX10_doPartsUntilOver := ⟨w_602, w_2⟩
theorem ca_X3_keepBefore : ca_ yX3_keepBefore cX3_keepBefore 2 none 0 := ⟨w_84, w_428, by decide, by decide, by decide +kernel⟩
theorem cv_X3_keepBefore : cv_ yX3_keepBefore := ⟨w_426, w_427⟩
theorem ca_X1_makeUrn : ca_ yX1_makeUrn cX1_makeUrn 3 (some .int) 1 := ⟨w_81, w_444, by decide, by decide, by decide +kernel⟩
theorem cv_X1_makeUrn : cv_ yX1_makeUrn := ⟨w_442, w_443⟩
theorem ca_X3_settle : ca_ yX3_settle cX3_settle 2 (some .int) 1 := ⟨w_84, w_460, by decide, by decide, by decide +kernel⟩
theorem cv_X3_settle : cv_ yX3_settle := ⟨w_458, w_459⟩
theorem ca_X1_tieThread : ca_ yX1_tieThread cX1_tieThread 5 (some .int) 3 := ⟨w_81, w_474, by decide, by decide, by decide +kernel⟩
theorem cv_X1_tieThread : cv_ yX1_tieThread := ⟨w_472, w_473⟩
theorem ca_X1_takeThread : ca_ yX1_takeThread cX1_takeThread 4 (some .int) 2 := ⟨w_81, w_513, by decide, by decide, by decide +kernel⟩
theorem cv_X1_takeThread : cv_ yX1_takeThread := ⟨w_511, w_512⟩
theorem ca_X1_tieWeak : ca_ yX1_tieWeak cX1_tieWeak 4 (some .int) 2 := ⟨w_81, w_521, by decide, by decide, by decide +kernel⟩
theorem cv_X1_tieWeak : cv_ yX1_tieWeak := ⟨w_519, w_520⟩
theorem ca_X1_takeWeak : ca_ yX1_takeWeak cX1_takeWeak 3 (some .int) 1 := ⟨w_81, w_529, by decide, by decide, by decide +kernel⟩
theorem cv_X1_takeWeak : cv_ yX1_takeWeak := ⟨w_527, w_528⟩
theorem ca_X1_giveName : ca_ yX1_giveName cX1_giveName 4 (some .int) 2 := ⟨w_81, w_537, by decide, by decide, by decide +kernel⟩
theorem cv_X1_giveName : cv_ yX1_giveName := ⟨w_535, w_536⟩
theorem ca_X1_takeName : ca_ yX1_takeName cX1_takeName 3 (some .int) 1 := ⟨w_81, w_548, by decide, by decide, by decide +kernel⟩
theorem cv_X1_takeName : cv_ yX1_takeName := ⟨w_546, w_547⟩
theorem ca_X10_beginRound : ca_ yX10_beginRound cX10_beginRound 1 (some .int) 0 := ⟨w_82, w_581, by decide, by decide, by decide +kernel⟩
theorem cv_X10_beginRound : cv_ yX10_beginRound := ⟨w_579, w_580⟩
theorem ca_X10_doParts : ca_ yX10_doParts cX10_doParts 2 (some .int) 1 := ⟨w_82, w_599, by decide, by decide, by decide +kernel⟩
theorem cv_X10_doParts : cv_ yX10_doParts := ⟨w_597, w_598⟩
theorem ca_X10_endRound : ca_ yX10_endRound cX10_endRound 2 (some .int) 0 := ⟨w_82, w_641, by decide, by decide, by decide +kernel⟩
theorem cv_X10_endRound : cv_ yX10_endRound := ⟨w_639, w_640⟩
theorem ca_X10_doRite : ca_ yX10_doRite cX10_doRite 2 (some .int) 0 := ⟨w_82, w_649, by decide, by decide, by decide +kernel⟩
theorem cv_X10_doRite : cv_ yX10_doRite := ⟨w_647, w_648⟩
theorem ca_X2_freedLate : ca_ yX2_freedLate cX2_freedLate 2 (some .int) 1 := ⟨w_77, w_666, by decide, by decide, by decide +kernel⟩
theorem cv_X2_freedLate : cv_ yX2_freedLate := ⟨w_664, w_665⟩
theorem ca_X7_reachUrnByUrn : ca_ yX7_reachUrnByUrn cX7_reachUrnByUrn 5 (some .int) 0 := ⟨w_83, w_711, by decide, by decide, by decide +kernel⟩
theorem cv_X7_reachUrnByUrn : cv_ yX7_reachUrnByUrn := ⟨w_709, w_710⟩
theorem ca_X7_neededNames : ca_ yX7_neededNames cX7_neededNames 4 (some .int) 1 := ⟨w_83, w_732, by decide, by decide, by decide +kernel⟩
theorem cv_X7_neededNames : cv_ yX7_neededNames := ⟨w_730, w_731⟩
theorem ca_X7_ringLength : ca_ yX7_ringLength cX7_ringLength 3 (some .int) 1 := ⟨w_83, w_741, by decide, by decide, by decide +kernel⟩
theorem cv_X7_ringLength : cv_ yX7_ringLength := ⟨w_739, w_740⟩
theorem ca_X7_leftOver : ca_ yX7_leftOver cX7_leftOver 4 (some .int) 0 := ⟨w_83, w_750, by decide, by decide, by decide +kernel⟩
theorem cv_X7_leftOver : cv_ yX7_leftOver := ⟨w_748, w_749⟩
theorem ca_X7_urnAtRank : ca_ yX7_urnAtRank cX7_urnAtRank 3 (some .int) 1 := ⟨w_83, w_758, by decide, by decide, by decide +kernel⟩
theorem cv_X7_urnAtRank : cv_ yX7_urnAtRank := ⟨w_756, w_757⟩
theorem ca_X2_namesInUse : ca_ yX2_namesInUse cX2_namesInUse 3 (some .int) 0 := ⟨w_77, w_1091, by decide, by decide, by decide +kernel⟩
theorem cv_X2_namesInUse : cv_ yX2_namesInUse := ⟨w_1089, w_1090⟩
theorem ca_X2_isSound : ca_ yX2_isSound cX2_isSound 1 (some .boolean) 0 := ⟨w_77, w_1103, by decide, by decide, by decide +kernel⟩
theorem cv_X2_isSound : cv_ yX2_isSound := ⟨w_1101, w_1102⟩
theorem ca_X2_holdersOfAll : ca_ yX2_holdersOfAll cX2_holdersOfAll 3 (some .int) 0 := ⟨w_77, w_1120, by decide, by decide, by decide +kernel⟩
theorem cv_X2_holdersOfAll : cv_ yX2_holdersOfAll := ⟨w_1118, w_1119⟩
theorem ca_X3_undoLatest : ca_ yX3_undoLatest cX3_undoLatest 1 (some .int) 0 := ⟨w_84, w_1139, by decide, by decide, by decide +kernel⟩
theorem cv_X3_undoLatest : cv_ yX3_undoLatest := ⟨w_1137, w_1138⟩
theorem ca_X3_saveNow : ca_ yX3_saveNow cX3_saveNow 1 (some .int) 0 := ⟨w_84, w_1148, by decide, by decide, by decide +kernel⟩
theorem cv_X3_saveNow : cv_ yX3_saveNow := ⟨w_1146, w_1147⟩
theorem ca_X3_restoreSaved : ca_ yX3_restoreSaved cX3_restoreSaved 1 (some .int) 0 := ⟨w_84, w_1157, by decide, by decide, by decide +kernel⟩
theorem cv_X3_restoreSaved : cv_ yX3_restoreSaved := ⟨w_1155, w_1156⟩
theorem ca_X6_has : ca_ yX6_has cX6_has 2 (some .boolean) 1 := ⟨w_85, w_981, by decide, by decide, by decide +kernel⟩
theorem cv_X6_has : cv_ yX6_has := ⟨w_979, w_980⟩
end
section
theorem dX8_refuse_0 : decode cX8_refuse 0 = .ok (.aload_n 0, 1) := by decide +kernel
theorem dX8_refuse_1 : decode cX8_refuse 1 = .ok (.iload_n 1, 1) := by decide +kernel
theorem dX8_refuse_2 : decode cX8_refuse 2 = .ok (.putfield 9, 3) := by decide +kernel
theorem dX8_refuse_5 : decode cX8_refuse 5 = .ok (.aload_n 0, 1) := by decide +kernel
theorem dX8_refuse_6 : decode cX8_refuse 6 = .ok (.iload_n 2, 1) := by decide +kernel
theorem dX8_refuse_7 : decode cX8_refuse 7 = .ok (.putfield 15, 3) := by decide +kernel
theorem dX8_refuse_10 : decode cX8_refuse 10 = .ok (.bipush (-14), 2) := by decide +kernel
theorem dX8_refuse_12 : decode cX8_refuse 12 = .ok (.ireturn, 1) := by decide +kernel
theorem dX1_colourOfNew_0 : decode cX1_colourOfNew 0 = .ok (.aload_n 0, 1) := by decide +kernel
theorem dX1_colourOfNew_1 : decode cX1_colourOfNew 1 = .ok (.getfield 9, 3) := by decide +kernel
theorem dX1_colourOfNew_4 : decode cX1_colourOfNew 4 = .ok (.getfield 52, 3) := by decide +kernel
theorem dX1_colourOfNew_7 : decode cX1_colourOfNew 7 = .ok (.iconst 2, 1) := by decide +kernel
theorem dX1_colourOfNew_8 : decode cX1_colourOfNew 8 = .ok (.if_icmp .ne 18, 3) := by decide +kernel
theorem dX1_colourOfNew_11 : decode cX1_colourOfNew 11 = .ok (.iload_n 1, 1) := by decide +kernel
theorem dX1_colourOfNew_12 : decode cX1_colourOfNew 12 = .ok (.aload_n 0, 1) := by decide +kernel
theorem dX1_colourOfNew_13 : decode cX1_colourOfNew 13 = .ok (.getfield 9, 3) := by decide +kernel
theorem dX1_colourOfNew_16 : decode cX1_colourOfNew 16 = .ok (.getfield 55, 3) := by decide +kernel
theorem dX1_colourOfNew_19 : decode cX1_colourOfNew 19 = .ok (.if_icmp .lt 7, 3) := by decide +kernel
theorem dX1_colourOfNew_22 : decode cX1_colourOfNew 22 = .ok (.iconst 1, 1) := by decide +kernel
theorem dX1_colourOfNew_23 : decode cX1_colourOfNew 23 = .ok (.goto 4, 3) := by decide +kernel
theorem dX1_colourOfNew_26 : decode cX1_colourOfNew 26 = .ok (.iconst 0, 1) := by decide +kernel
theorem dX1_colourOfNew_27 : decode cX1_colourOfNew 27 = .ok (.istore_n 2, 1) := by decide +kernel
theorem dX1_colourOfNew_28 : decode cX1_colourOfNew 28 = .ok (.aload_n 0, 1) := by decide +kernel
theorem dX1_colourOfNew_29 : decode cX1_colourOfNew 29 = .ok (.getfield 9, 3) := by decide +kernel
theorem dX1_colourOfNew_32 : decode cX1_colourOfNew 32 = .ok (.getfield 52, 3) := by decide +kernel
theorem dX1_colourOfNew_35 : decode cX1_colourOfNew 35 = .ok (.iconst 1, 1) := by decide +kernel
theorem dX1_colourOfNew_36 : decode cX1_colourOfNew 36 = .ok (.if_icmp .eq 7, 3) := by decide +kernel
theorem dX1_colourOfNew_39 : decode cX1_colourOfNew 39 = .ok (.iload_n 2, 1) := by decide +kernel
theorem dX1_colourOfNew_40 : decode cX1_colourOfNew 40 = .ok (.ifCond .eq 7, 3) := by decide +kernel
theorem dX1_colourOfNew_43 : decode cX1_colourOfNew 43 = .ok (.iconst 2, 1) := by decide +kernel
theorem dX1_colourOfNew_44 : decode cX1_colourOfNew 44 = .ok (.goto 4, 3) := by decide +kernel
theorem dX1_colourOfNew_47 : decode cX1_colourOfNew 47 = .ok (.iconst 0, 1) := by decide +kernel
theorem dX1_colourOfNew_48 : decode cX1_colourOfNew 48 = .ok (.ireturn, 1) := by decide +kernel
theorem dX2_hasUrn_0 : decode cX2_hasUrn 0 = .ok (.iload_n 1, 1) := by decide +kernel
theorem dX2_hasUrn_1 : decode cX2_hasUrn 1 = .ok (.ifCond .lt 23, 3) := by decide +kernel
theorem dX2_hasUrn_4 : decode cX2_hasUrn 4 = .ok (.iload_n 1, 1) := by decide +kernel
theorem dX2_hasUrn_5 : decode cX2_hasUrn 5 = .ok (.bipush 24, 2) := by decide +kernel
theorem dX2_hasUrn_7 : decode cX2_hasUrn 7 = .ok (.if_icmp .ge 17, 3) := by decide +kernel
theorem dX2_hasUrn_10 : decode cX2_hasUrn 10 = .ok (.aload_n 0, 1) := by decide +kernel
theorem dX2_hasUrn_11 : decode cX2_hasUrn 11 = .ok (.getfield 21, 3) := by decide +kernel
theorem dX2_hasUrn_14 : decode cX2_hasUrn 14 = .ok (.iload_n 1, 1) := by decide +kernel
theorem dX2_hasUrn_15 : decode cX2_hasUrn 15 = .ok (.iaload, 1) := by decide +kernel
theorem dX2_hasUrn_16 : decode cX2_hasUrn 16 = .ok (.iconst (-1), 1) := by decide +kernel
theorem dX2_hasUrn_17 : decode cX2_hasUrn 17 = .ok (.if_icmp .eq 7, 3) := by decide +kernel
theorem dX2_hasUrn_20 : decode cX2_hasUrn 20 = .ok (.iconst 1, 1) := by decide +kernel
theorem dX2_hasUrn_21 : decode cX2_hasUrn 21 = .ok (.goto 4, 3) := by decide +kernel
theorem dX2_hasUrn_24 : decode cX2_hasUrn 24 = .ok (.iconst 0, 1) := by decide +kernel
theorem dX2_hasUrn_25 : decode cX2_hasUrn 25 = .ok (.ireturn, 1) := by decide +kernel
theorem dX1_makeUrn_0 : decode cX1_makeUrn 0 = .ok (.iconst 0, 1) := by decide +kernel
theorem dX1_makeUrn_1 : decode cX1_makeUrn 1 = .ok (.istore_n 2, 1) := by decide +kernel
theorem dX1_makeUrn_2 : decode cX1_makeUrn 2 = .ok (.iload_n 2, 1) := by decide +kernel
theorem dX1_makeUrn_3 : decode cX1_makeUrn 3 = .ok (.bipush 24, 2) := by decide +kernel
theorem dX1_makeUrn_5 : decode cX1_makeUrn 5 = .ok (.if_icmp .ge 83, 3) := by decide +kernel
theorem dX1_makeUrn_8 : decode cX1_makeUrn 8 = .ok (.aload_n 0, 1) := by decide +kernel
theorem dX1_makeUrn_9 : decode cX1_makeUrn 9 = .ok (.getfield 9, 3) := by decide +kernel
theorem dX1_makeUrn_12 : decode cX1_makeUrn 12 = .ok (.iload_n 2, 1) := by decide +kernel
theorem dX1_makeUrn_13 : decode cX1_makeUrn 13 = .ok (.invokevirtual 19, 3) := by decide +kernel
theorem dX1_makeUrn_16 : decode cX1_makeUrn 16 = .ok (.ifCond .ne 66, 3) := by decide +kernel
theorem dX1_makeUrn_19 : decode cX1_makeUrn 19 = .ok (.aload_n 0, 1) := by decide +kernel
theorem dX1_makeUrn_20 : decode cX1_makeUrn 20 = .ok (.getfield 9, 3) := by decide +kernel
theorem dX1_makeUrn_23 : decode cX1_makeUrn 23 = .ok (.getfield 25, 3) := by decide +kernel
theorem dX1_makeUrn_26 : decode cX1_makeUrn 26 = .ok (.iload_n 2, 1) := by decide +kernel
theorem dX1_makeUrn_27 : decode cX1_makeUrn 27 = .ok (.aload_n 0, 1) := by decide +kernel
theorem dX1_makeUrn_28 : decode cX1_makeUrn 28 = .ok (.iload_n 2, 1) := by decide +kernel
theorem dX1_makeUrn_29 : decode cX1_makeUrn 29 = .ok (.invokevirtual 29, 3) := by decide +kernel
theorem dX1_makeUrn_32 : decode cX1_makeUrn 32 = .ok (.iastore, 1) := by decide +kernel
theorem dX1_makeUrn_33 : decode cX1_makeUrn 33 = .ok (.aload_n 0, 1) := by decide +kernel
theorem dX1_makeUrn_34 : decode cX1_makeUrn 34 = .ok (.getfield 9, 3) := by decide +kernel
theorem dX1_makeUrn_37 : decode cX1_makeUrn 37 = .ok (.getfield 33, 3) := by decide +kernel
theorem dX1_makeUrn_40 : decode cX1_makeUrn 40 = .ok (.iload_n 2, 1) := by decide +kernel
theorem dX1_makeUrn_41 : decode cX1_makeUrn 41 = .ok (.iload_n 1, 1) := by decide +kernel
theorem dX1_makeUrn_42 : decode cX1_makeUrn 42 = .ok (.ifCond .eq 7, 3) := by decide +kernel
theorem dX1_makeUrn_45 : decode cX1_makeUrn 45 = .ok (.iconst 1, 1) := by decide +kernel
theorem dX1_makeUrn_46 : decode cX1_makeUrn 46 = .ok (.goto 4, 3) := by decide +kernel
theorem dX1_makeUrn_49 : decode cX1_makeUrn 49 = .ok (.iconst 0, 1) := by decide +kernel
theorem dX1_makeUrn_50 : decode cX1_makeUrn 50 = .ok (.iastore, 1) := by decide +kernel
theorem dX1_makeUrn_51 : decode cX1_makeUrn 51 = .ok (.aload_n 0, 1) := by decide +kernel
theorem dX1_makeUrn_52 : decode cX1_makeUrn 52 = .ok (.getfield 9, 3) := by decide +kernel
theorem dX1_makeUrn_55 : decode cX1_makeUrn 55 = .ok (.getfield 36, 3) := by decide +kernel
theorem dX1_makeUrn_58 : decode cX1_makeUrn 58 = .ok (.iload_n 2, 1) := by decide +kernel
theorem dX1_makeUrn_59 : decode cX1_makeUrn 59 = .ok (.aload_n 0, 1) := by decide +kernel
theorem dX1_makeUrn_60 : decode cX1_makeUrn 60 = .ok (.getfield 9, 3) := by decide +kernel
theorem dX1_makeUrn_63 : decode cX1_makeUrn 63 = .ok (.getfield 39, 3) := by decide +kernel
theorem dX1_makeUrn_66 : decode cX1_makeUrn 66 = .ok (.iastore, 1) := by decide +kernel
theorem dX1_makeUrn_67 : decode cX1_makeUrn 67 = .ok (.aload_n 0, 1) := by decide +kernel
theorem dX1_makeUrn_68 : decode cX1_makeUrn 68 = .ok (.getfield 9, 3) := by decide +kernel
theorem dX1_makeUrn_71 : decode cX1_makeUrn 71 = .ok (.dup, 1) := by decide +kernel
theorem dX1_makeUrn_72 : decode cX1_makeUrn 72 = .ok (.getfield 43, 3) := by decide +kernel
theorem dX1_makeUrn_75 : decode cX1_makeUrn 75 = .ok (.iconst 1, 1) := by decide +kernel
theorem dX1_makeUrn_76 : decode cX1_makeUrn 76 = .ok (.iadd, 1) := by decide +kernel
theorem dX1_makeUrn_77 : decode cX1_makeUrn 77 = .ok (.putfield 43, 3) := by decide +kernel
theorem dX1_makeUrn_80 : decode cX1_makeUrn 80 = .ok (.iload_n 2, 1) := by decide +kernel
theorem dX1_makeUrn_81 : decode cX1_makeUrn 81 = .ok (.ireturn, 1) := by decide +kernel
theorem dX1_makeUrn_82 : decode cX1_makeUrn 82 = .ok (.iinc 2 1, 3) := by decide +kernel
theorem dX1_makeUrn_85 : decode cX1_makeUrn 85 = .ok (.goto (-83), 3) := by decide +kernel
theorem dX1_makeUrn_88 : decode cX1_makeUrn 88 = .ok (.aload_n 0, 1) := by decide +kernel
theorem dX1_makeUrn_89 : decode cX1_makeUrn 89 = .ok (.getfield 15, 3) := by decide +kernel
theorem dX1_makeUrn_92 : decode cX1_makeUrn 92 = .ok (.iconst 1, 1) := by decide +kernel
theorem dX1_makeUrn_93 : decode cX1_makeUrn 93 = .ok (.bipush 24, 2) := by decide +kernel
theorem dX1_makeUrn_95 : decode cX1_makeUrn 95 = .ok (.invokevirtual 46, 3) := by decide +kernel
theorem dX1_makeUrn_98 : decode cX1_makeUrn 98 = .ok (.ireturn, 1) := by decide +kernel
theorem dX11_isSlot_0 : decode cX11_isSlot 0 = .ok (.iload_n 0, 1) := by decide +kernel
theorem dX11_isSlot_1 : decode cX11_isSlot 1 = .ok (.ifCond .lt 12, 3) := by decide +kernel
theorem dX11_isSlot_4 : decode cX11_isSlot 4 = .ok (.iload_n 0, 1) := by decide +kernel
theorem dX11_isSlot_5 : decode cX11_isSlot 5 = .ok (.iconst 4, 1) := by decide +kernel
theorem dX11_isSlot_6 : decode cX11_isSlot 6 = .ok (.if_icmp .ge 7, 3) := by decide +kernel
theorem dX11_isSlot_9 : decode cX11_isSlot 9 = .ok (.iconst 1, 1) := by decide +kernel
theorem dX11_isSlot_10 : decode cX11_isSlot 10 = .ok (.goto 4, 3) := by decide +kernel
theorem dX11_isSlot_13 : decode cX11_isSlot 13 = .ok (.iconst 0, 1) := by decide +kernel
theorem dX11_isSlot_14 : decode cX11_isSlot 14 = .ok (.ireturn, 1) := by decide +kernel
theorem dX2_isWhite_0 : decode cX2_isWhite 0 = .ok (.iload_n 1, 1) := by decide +kernel
theorem dX2_isWhite_1 : decode cX2_isWhite 1 = .ok (.ifCond .lt 22, 3) := by decide +kernel
theorem dX2_isWhite_4 : decode cX2_isWhite 4 = .ok (.iload_n 1, 1) := by decide +kernel
theorem dX2_isWhite_5 : decode cX2_isWhite 5 = .ok (.bipush 24, 2) := by decide +kernel
theorem dX2_isWhite_7 : decode cX2_isWhite 7 = .ok (.if_icmp .ge 16, 3) := by decide +kernel
theorem dX2_isWhite_10 : decode cX2_isWhite 10 = .ok (.aload_n 0, 1) := by decide +kernel
theorem dX2_isWhite_11 : decode cX2_isWhite 11 = .ok (.getfield 21, 3) := by decide +kernel
theorem dX2_isWhite_14 : decode cX2_isWhite 14 = .ok (.iload_n 1, 1) := by decide +kernel
theorem dX2_isWhite_15 : decode cX2_isWhite 15 = .ok (.iaload, 1) := by decide +kernel
theorem dX2_isWhite_16 : decode cX2_isWhite 16 = .ok (.ifCond .ne 7, 3) := by decide +kernel
theorem dX2_isWhite_19 : decode cX2_isWhite 19 = .ok (.iconst 1, 1) := by decide +kernel
theorem dX2_isWhite_20 : decode cX2_isWhite 20 = .ok (.goto 4, 3) := by decide +kernel
theorem dX2_isWhite_23 : decode cX2_isWhite 23 = .ok (.iconst 0, 1) := by decide +kernel
theorem dX2_isWhite_24 : decode cX2_isWhite 24 = .ok (.ireturn, 1) := by decide +kernel
theorem dX2_isToBeSwept_0 : decode cX2_isToBeSwept 0 = .ok (.aload_n 0, 1) := by decide +kernel
theorem dX2_isToBeSwept_1 : decode cX2_isToBeSwept 1 = .ok (.getfield 43, 3) := by decide +kernel
theorem dX2_isToBeSwept_4 : decode cX2_isToBeSwept 4 = .ok (.iconst 2, 1) := by decide +kernel
theorem dX2_isToBeSwept_5 : decode cX2_isToBeSwept 5 = .ok (.if_icmp .ne 23, 3) := by decide +kernel
theorem dX2_isToBeSwept_8 : decode cX2_isToBeSwept 8 = .ok (.aload_n 0, 1) := by decide +kernel
theorem dX2_isToBeSwept_9 : decode cX2_isToBeSwept 9 = .ok (.iload_n 1, 1) := by decide +kernel
theorem dX2_isToBeSwept_10 : decode cX2_isToBeSwept 10 = .ok (.invokevirtual 84, 3) := by decide +kernel
theorem dX2_isToBeSwept_13 : decode cX2_isToBeSwept 13 = .ok (.ifCond .eq 15, 3) := by decide +kernel
theorem dX2_isToBeSwept_16 : decode cX2_isToBeSwept 16 = .ok (.iload_n 1, 1) := by decide +kernel
theorem dX2_isToBeSwept_17 : decode cX2_isToBeSwept 17 = .ok (.aload_n 0, 1) := by decide +kernel
theorem dX2_isToBeSwept_18 : decode cX2_isToBeSwept 18 = .ok (.getfield 47, 3) := by decide +kernel
theorem dX2_isToBeSwept_21 : decode cX2_isToBeSwept 21 = .ok (.if_icmp .lt 7, 3) := by decide +kernel
theorem dX2_isToBeSwept_24 : decode cX2_isToBeSwept 24 = .ok (.iconst 1, 1) := by decide +kernel
theorem dX2_isToBeSwept_25 : decode cX2_isToBeSwept 25 = .ok (.goto 4, 3) := by decide +kernel
theorem dX2_isToBeSwept_28 : decode cX2_isToBeSwept 28 = .ok (.iconst 0, 1) := by decide +kernel
theorem dX2_isToBeSwept_29 : decode cX2_isToBeSwept 29 = .ok (.ireturn, 1) := by decide +kernel
theorem dX11_isCell_0 : decode cX11_isCell 0 = .ok (.iload_n 0, 1) := by decide +kernel
theorem dX11_isCell_1 : decode cX11_isCell 1 = .ok (.ifCond .lt 13, 3) := by decide +kernel
theorem dX11_isCell_4 : decode cX11_isCell 4 = .ok (.iload_n 0, 1) := by decide +kernel
theorem dX11_isCell_5 : decode cX11_isCell 5 = .ok (.bipush 24, 2) := by decide +kernel
theorem dX11_isCell_7 : decode cX11_isCell 7 = .ok (.if_icmp .ge 7, 3) := by decide +kernel
theorem dX11_isCell_10 : decode cX11_isCell 10 = .ok (.iconst 1, 1) := by decide +kernel
theorem dX11_isCell_11 : decode cX11_isCell 11 = .ok (.goto 4, 3) := by decide +kernel
theorem dX11_isCell_14 : decode cX11_isCell 14 = .ok (.iconst 0, 1) := by decide +kernel
theorem dX11_isCell_15 : decode cX11_isCell 15 = .ok (.ireturn, 1) := by decide +kernel
theorem dX2_target_0 : decode cX2_target 0 = .ok (.iload_n 1, 1) := by decide +kernel
theorem dX2_target_1 : decode cX2_target 1 = .ok (.invokestatic 88, 3) := by decide +kernel
theorem dX2_target_4 : decode cX2_target 4 = .ok (.ifCond .eq 23, 3) := by decide +kernel
theorem dX2_target_7 : decode cX2_target 7 = .ok (.iload_n 2, 1) := by decide +kernel
theorem dX2_target_8 : decode cX2_target 8 = .ok (.invokestatic 91, 3) := by decide +kernel
theorem dX2_target_11 : decode cX2_target 11 = .ok (.ifCond .eq 16, 3) := by decide +kernel
theorem dX2_target_14 : decode cX2_target 14 = .ok (.aload_n 0, 1) := by decide +kernel
theorem dX2_target_15 : decode cX2_target 15 = .ok (.getfield 9, 3) := by decide +kernel
theorem dX2_target_18 : decode cX2_target 18 = .ok (.iload_n 1, 1) := by decide +kernel
theorem dX2_target_19 : decode cX2_target 19 = .ok (.iconst 4, 1) := by decide +kernel
theorem dX2_target_20 : decode cX2_target 20 = .ok (.imul, 1) := by decide +kernel
theorem dX2_target_21 : decode cX2_target 21 = .ok (.iload_n 2, 1) := by decide +kernel
theorem dX2_target_22 : decode cX2_target 22 = .ok (.iadd, 1) := by decide +kernel
theorem dX2_target_23 : decode cX2_target 23 = .ok (.iaload, 1) := by decide +kernel
theorem dX2_target_24 : decode cX2_target 24 = .ok (.goto 5, 3) := by decide +kernel
theorem dX2_target_27 : decode cX2_target 27 = .ok (.bipush (-15), 2) := by decide +kernel
theorem dX2_target_29 : decode cX2_target 29 = .ok (.ireturn, 1) := by decide +kernel
theorem dX9_addLast_0 : decode cX9_addLast 0 = .ok (.aload_n 0, 1) := by decide +kernel
theorem dX9_addLast_1 : decode cX9_addLast 1 = .ok (.getfield 15, 3) := by decide +kernel
theorem dX9_addLast_4 : decode cX9_addLast 4 = .ok (.aload_n 0, 1) := by decide +kernel
theorem dX9_addLast_5 : decode cX9_addLast 5 = .ok (.getfield 9, 3) := by decide +kernel
theorem dX9_addLast_8 : decode cX9_addLast 8 = .ok (.arraylength, 1) := by decide +kernel
theorem dX9_addLast_9 : decode cX9_addLast 9 = .ok (.if_icmp .ge 23, 3) := by decide +kernel
theorem dX9_addLast_12 : decode cX9_addLast 12 = .ok (.aload_n 0, 1) := by decide +kernel
theorem dX9_addLast_13 : decode cX9_addLast 13 = .ok (.getfield 9, 3) := by decide +kernel
theorem dX9_addLast_16 : decode cX9_addLast 16 = .ok (.aload_n 0, 1) := by decide +kernel
theorem dX9_addLast_17 : decode cX9_addLast 17 = .ok (.getfield 15, 3) := by decide +kernel
theorem dX9_addLast_20 : decode cX9_addLast 20 = .ok (.iload_n 1, 1) := by decide +kernel
theorem dX9_addLast_21 : decode cX9_addLast 21 = .ok (.iastore, 1) := by decide +kernel
theorem dX9_addLast_22 : decode cX9_addLast 22 = .ok (.aload_n 0, 1) := by decide +kernel
theorem dX9_addLast_23 : decode cX9_addLast 23 = .ok (.dup, 1) := by decide +kernel
theorem dX9_addLast_24 : decode cX9_addLast 24 = .ok (.getfield 15, 3) := by decide +kernel
theorem dX9_addLast_27 : decode cX9_addLast 27 = .ok (.iconst 1, 1) := by decide +kernel
theorem dX9_addLast_28 : decode cX9_addLast 28 = .ok (.iadd, 1) := by decide +kernel
theorem dX9_addLast_29 : decode cX9_addLast 29 = .ok (.putfield 15, 3) := by decide +kernel
theorem dX9_addLast_32 : decode cX9_addLast 32 = .ok (.return_, 1) := by decide +kernel
theorem dX2_makeGrey_0 : decode cX2_makeGrey 0 = .ok (.aload_n 0, 1) := by decide +kernel
theorem dX2_makeGrey_1 : decode cX2_makeGrey 1 = .ok (.iload_n 1, 1) := by decide +kernel
theorem dX2_makeGrey_2 : decode cX2_makeGrey 2 = .ok (.invokevirtual 84, 3) := by decide +kernel
theorem dX2_makeGrey_5 : decode cX2_makeGrey 5 = .ok (.ifCond .eq 18, 3) := by decide +kernel
theorem dX2_makeGrey_8 : decode cX2_makeGrey 8 = .ok (.aload_n 0, 1) := by decide +kernel
theorem dX2_makeGrey_9 : decode cX2_makeGrey 9 = .ok (.getfield 21, 3) := by decide +kernel
theorem dX2_makeGrey_12 : decode cX2_makeGrey 12 = .ok (.iload_n 1, 1) := by decide +kernel
theorem dX2_makeGrey_13 : decode cX2_makeGrey 13 = .ok (.iconst 1, 1) := by decide +kernel
theorem dX2_makeGrey_14 : decode cX2_makeGrey 14 = .ok (.iastore, 1) := by decide +kernel
theorem dX2_makeGrey_15 : decode cX2_makeGrey 15 = .ok (.aload_n 0, 1) := by decide +kernel
theorem dX2_makeGrey_16 : decode cX2_makeGrey 16 = .ok (.getfield 36, 3) := by decide +kernel
theorem dX2_makeGrey_19 : decode cX2_makeGrey 19 = .ok (.iload_n 1, 1) := by decide +kernel
theorem dX2_makeGrey_20 : decode cX2_makeGrey 20 = .ok (.invokevirtual 108, 3) := by decide +kernel
theorem dX2_makeGrey_23 : decode cX2_makeGrey 23 = .ok (.return_, 1) := by decide +kernel
theorem dX2_makeGreyInRound_0 : decode cX2_makeGreyInRound 0 = .ok (.aload_n 0, 1) := by decide +kernel
theorem dX2_makeGreyInRound_1 : decode cX2_makeGreyInRound 1 = .ok (.getfield 43, 3) := by decide +kernel
theorem dX2_makeGreyInRound_4 : decode cX2_makeGreyInRound 4 = .ok (.iconst 1, 1) := by decide +kernel
theorem dX2_makeGreyInRound_5 : decode cX2_makeGreyInRound 5 = .ok (.if_icmp .ne 8, 3) := by decide +kernel
theorem dX2_makeGreyInRound_8 : decode cX2_makeGreyInRound 8 = .ok (.aload_n 0, 1) := by decide +kernel
theorem dX2_makeGreyInRound_9 : decode cX2_makeGreyInRound 9 = .ok (.iload_n 1, 1) := by decide +kernel
theorem dX2_makeGreyInRound_10 : decode cX2_makeGreyInRound 10 = .ok (.invokevirtual 112, 3) := by decide +kernel
theorem dX2_makeGreyInRound_13 : decode cX2_makeGreyInRound 13 = .ok (.return_, 1) := by decide +kernel
theorem dX1_tieThread_0 : decode cX1_tieThread 0 = .ok (.aload_n 0, 1) := by decide +kernel
theorem dX1_tieThread_1 : decode cX1_tieThread 1 = .ok (.getfield 9, 3) := by decide +kernel
theorem dX1_tieThread_4 : decode cX1_tieThread 4 = .ok (.iload_n 1, 1) := by decide +kernel
theorem dX1_tieThread_5 : decode cX1_tieThread 5 = .ok (.invokevirtual 19, 3) := by decide +kernel
theorem dX1_tieThread_8 : decode cX1_tieThread 8 = .ok (.ifCond .eq 21, 3) := by decide +kernel
theorem dX1_tieThread_11 : decode cX1_tieThread 11 = .ok (.iload_n 2, 1) := by decide +kernel
theorem dX1_tieThread_12 : decode cX1_tieThread 12 = .ok (.invokestatic 58, 3) := by decide +kernel
theorem dX1_tieThread_15 : decode cX1_tieThread 15 = .ok (.ifCond .eq 14, 3) := by decide +kernel
theorem dX1_tieThread_18 : decode cX1_tieThread 18 = .ok (.aload_n 0, 1) := by decide +kernel
theorem dX1_tieThread_19 : decode cX1_tieThread 19 = .ok (.getfield 9, 3) := by decide +kernel
theorem dX1_tieThread_22 : decode cX1_tieThread 22 = .ok (.iload_n 3, 1) := by decide +kernel
theorem dX1_tieThread_23 : decode cX1_tieThread 23 = .ok (.invokevirtual 19, 3) := by decide +kernel
theorem dX1_tieThread_26 : decode cX1_tieThread 26 = .ok (.ifCond .ne 6, 3) := by decide +kernel
theorem dX1_tieThread_29 : decode cX1_tieThread 29 = .ok (.bipush (-11), 2) := by decide +kernel
theorem dX1_tieThread_31 : decode cX1_tieThread 31 = .ok (.ireturn, 1) := by decide +kernel
theorem dX1_tieThread_32 : decode cX1_tieThread 32 = .ok (.aload_n 0, 1) := by decide +kernel
theorem dX1_tieThread_33 : decode cX1_tieThread 33 = .ok (.getfield 9, 3) := by decide +kernel
theorem dX1_tieThread_36 : decode cX1_tieThread 36 = .ok (.iload_n 1, 1) := by decide +kernel
theorem dX1_tieThread_37 : decode cX1_tieThread 37 = .ok (.invokevirtual 61, 3) := by decide +kernel
theorem dX1_tieThread_40 : decode cX1_tieThread 40 = .ok (.ifCond .eq 14, 3) := by decide +kernel
theorem dX1_tieThread_43 : decode cX1_tieThread 43 = .ok (.aload_n 0, 1) := by decide +kernel
theorem dX1_tieThread_44 : decode cX1_tieThread 44 = .ok (.getfield 15, 3) := by decide +kernel
theorem dX1_tieThread_47 : decode cX1_tieThread 47 = .ok (.bipush 7, 2) := by decide +kernel
theorem dX1_tieThread_49 : decode cX1_tieThread 49 = .ok (.iload_n 1, 1) := by decide +kernel
theorem dX1_tieThread_50 : decode cX1_tieThread 50 = .ok (.invokevirtual 46, 3) := by decide +kernel
theorem dX1_tieThread_53 : decode cX1_tieThread 53 = .ok (.ireturn, 1) := by decide +kernel
theorem dX1_tieThread_54 : decode cX1_tieThread 54 = .ok (.aload_n 0, 1) := by decide +kernel
theorem dX1_tieThread_55 : decode cX1_tieThread 55 = .ok (.getfield 9, 3) := by decide +kernel
theorem dX1_tieThread_58 : decode cX1_tieThread 58 = .ok (.iload_n 3, 1) := by decide +kernel
theorem dX1_tieThread_59 : decode cX1_tieThread 59 = .ok (.invokevirtual 61, 3) := by decide +kernel
theorem dX1_tieThread_62 : decode cX1_tieThread 62 = .ok (.ifCond .eq 14, 3) := by decide +kernel
theorem dX1_tieThread_65 : decode cX1_tieThread 65 = .ok (.aload_n 0, 1) := by decide +kernel
theorem dX1_tieThread_66 : decode cX1_tieThread 66 = .ok (.getfield 15, 3) := by decide +kernel
theorem dX1_tieThread_69 : decode cX1_tieThread 69 = .ok (.bipush 7, 2) := by decide +kernel
theorem dX1_tieThread_71 : decode cX1_tieThread 71 = .ok (.iload_n 3, 1) := by decide +kernel
theorem dX1_tieThread_72 : decode cX1_tieThread 72 = .ok (.invokevirtual 46, 3) := by decide +kernel
theorem dX1_tieThread_75 : decode cX1_tieThread 75 = .ok (.ireturn, 1) := by decide +kernel
theorem dX1_tieThread_76 : decode cX1_tieThread 76 = .ok (.aload_n 0, 1) := by decide +kernel
theorem dX1_tieThread_77 : decode cX1_tieThread 77 = .ok (.getfield 9, 3) := by decide +kernel
theorem dX1_tieThread_80 : decode cX1_tieThread 80 = .ok (.iload_n 1, 1) := by decide +kernel
theorem dX1_tieThread_81 : decode cX1_tieThread 81 = .ok (.iload_n 2, 1) := by decide +kernel
theorem dX1_tieThread_82 : decode cX1_tieThread 82 = .ok (.invokevirtual 64, 3) := by decide +kernel
theorem dX1_tieThread_85 : decode cX1_tieThread 85 = .ok (.istore 4, 2) := by decide +kernel
theorem dX1_tieThread_87 : decode cX1_tieThread 87 = .ok (.aload_n 0, 1) := by decide +kernel
theorem dX1_tieThread_88 : decode cX1_tieThread 88 = .ok (.getfield 9, 3) := by decide +kernel
theorem dX1_tieThread_91 : decode cX1_tieThread 91 = .ok (.getfield 67, 3) := by decide +kernel
theorem dX1_tieThread_94 : decode cX1_tieThread 94 = .ok (.iload_n 1, 1) := by decide +kernel
theorem dX1_tieThread_95 : decode cX1_tieThread 95 = .ok (.iconst 4, 1) := by decide +kernel
theorem dX1_tieThread_96 : decode cX1_tieThread 96 = .ok (.imul, 1) := by decide +kernel
theorem dX1_tieThread_97 : decode cX1_tieThread 97 = .ok (.iload_n 2, 1) := by decide +kernel
theorem dX1_tieThread_98 : decode cX1_tieThread 98 = .ok (.iadd, 1) := by decide +kernel
theorem dX1_tieThread_99 : decode cX1_tieThread 99 = .ok (.iload_n 3, 1) := by decide +kernel
theorem dX1_tieThread_100 : decode cX1_tieThread 100 = .ok (.iastore, 1) := by decide +kernel
theorem dX1_tieThread_101 : decode cX1_tieThread 101 = .ok (.aload_n 0, 1) := by decide +kernel
theorem dX1_tieThread_102 : decode cX1_tieThread 102 = .ok (.getfield 9, 3) := by decide +kernel
theorem dX1_tieThread_105 : decode cX1_tieThread 105 = .ok (.getfield 25, 3) := by decide +kernel
theorem dX1_tieThread_108 : decode cX1_tieThread 108 = .ok (.iload_n 1, 1) := by decide +kernel
theorem dX1_tieThread_109 : decode cX1_tieThread 109 = .ok (.iaload, 1) := by decide +kernel
theorem dX1_tieThread_110 : decode cX1_tieThread 110 = .ok (.iconst 2, 1) := by decide +kernel
theorem dX1_tieThread_111 : decode cX1_tieThread 111 = .ok (.if_icmp .ne 11, 3) := by decide +kernel
theorem dX1_tieThread_114 : decode cX1_tieThread 114 = .ok (.aload_n 0, 1) := by decide +kernel
theorem dX1_tieThread_115 : decode cX1_tieThread 115 = .ok (.getfield 9, 3) := by decide +kernel
theorem dX1_tieThread_118 : decode cX1_tieThread 118 = .ok (.iload_n 3, 1) := by decide +kernel
theorem dX1_tieThread_119 : decode cX1_tieThread 119 = .ok (.invokevirtual 70, 3) := by decide +kernel
theorem dX1_tieThread_122 : decode cX1_tieThread 122 = .ok (.iload 4, 2) := by decide +kernel
theorem dX1_tieThread_124 : decode cX1_tieThread 124 = .ok (.ireturn, 1) := by decide +kernel
theorem dX1_takeThread_0 : decode cX1_takeThread 0 = .ok (.aload_n 0, 1) := by decide +kernel
theorem dX1_takeThread_1 : decode cX1_takeThread 1 = .ok (.getfield 9, 3) := by decide +kernel
theorem dX1_takeThread_4 : decode cX1_takeThread 4 = .ok (.iload_n 1, 1) := by decide +kernel
theorem dX1_takeThread_5 : decode cX1_takeThread 5 = .ok (.invokevirtual 19, 3) := by decide +kernel
theorem dX1_takeThread_8 : decode cX1_takeThread 8 = .ok (.ifCond .eq 10, 3) := by decide +kernel
theorem dX1_takeThread_11 : decode cX1_takeThread 11 = .ok (.iload_n 2, 1) := by decide +kernel
theorem dX1_takeThread_12 : decode cX1_takeThread 12 = .ok (.invokestatic 58, 3) := by decide +kernel
theorem dX1_takeThread_15 : decode cX1_takeThread 15 = .ok (.ifCond .ne 6, 3) := by decide +kernel
theorem dX1_takeThread_18 : decode cX1_takeThread 18 = .ok (.bipush (-11), 2) := by decide +kernel
theorem dX1_takeThread_20 : decode cX1_takeThread 20 = .ok (.ireturn, 1) := by decide +kernel
theorem dX1_takeThread_21 : decode cX1_takeThread 21 = .ok (.aload_n 0, 1) := by decide +kernel
theorem dX1_takeThread_22 : decode cX1_takeThread 22 = .ok (.getfield 9, 3) := by decide +kernel
theorem dX1_takeThread_25 : decode cX1_takeThread 25 = .ok (.iload_n 1, 1) := by decide +kernel
theorem dX1_takeThread_26 : decode cX1_takeThread 26 = .ok (.iload_n 2, 1) := by decide +kernel
theorem dX1_takeThread_27 : decode cX1_takeThread 27 = .ok (.invokevirtual 64, 3) := by decide +kernel
theorem dX1_takeThread_30 : decode cX1_takeThread 30 = .ok (.istore_n 3, 1) := by decide +kernel
theorem dX1_takeThread_31 : decode cX1_takeThread 31 = .ok (.iload_n 3, 1) := by decide +kernel
theorem dX1_takeThread_32 : decode cX1_takeThread 32 = .ok (.bipush (-15), 2) := by decide +kernel
theorem dX1_takeThread_34 : decode cX1_takeThread 34 = .ok (.if_icmp .ne 13, 3) := by decide +kernel
theorem dX1_takeThread_37 : decode cX1_takeThread 37 = .ok (.aload_n 0, 1) := by decide +kernel
theorem dX1_takeThread_38 : decode cX1_takeThread 38 = .ok (.getfield 15, 3) := by decide +kernel
theorem dX1_takeThread_41 : decode cX1_takeThread 41 = .ok (.iconst 2, 1) := by decide +kernel
theorem dX1_takeThread_42 : decode cX1_takeThread 42 = .ok (.iload_n 2, 1) := by decide +kernel
theorem dX1_takeThread_43 : decode cX1_takeThread 43 = .ok (.invokevirtual 46, 3) := by decide +kernel
theorem dX1_takeThread_46 : decode cX1_takeThread 46 = .ok (.ireturn, 1) := by decide +kernel
theorem dX1_takeThread_47 : decode cX1_takeThread 47 = .ok (.aload_n 0, 1) := by decide +kernel
theorem dX1_takeThread_48 : decode cX1_takeThread 48 = .ok (.getfield 9, 3) := by decide +kernel
theorem dX1_takeThread_51 : decode cX1_takeThread 51 = .ok (.getfield 67, 3) := by decide +kernel
theorem dX1_takeThread_54 : decode cX1_takeThread 54 = .ok (.iload_n 1, 1) := by decide +kernel
theorem dX1_takeThread_55 : decode cX1_takeThread 55 = .ok (.iconst 4, 1) := by decide +kernel
theorem dX1_takeThread_56 : decode cX1_takeThread 56 = .ok (.imul, 1) := by decide +kernel
theorem dX1_takeThread_57 : decode cX1_takeThread 57 = .ok (.iload_n 2, 1) := by decide +kernel
theorem dX1_takeThread_58 : decode cX1_takeThread 58 = .ok (.iadd, 1) := by decide +kernel
theorem dX1_takeThread_59 : decode cX1_takeThread 59 = .ok (.bipush (-15), 2) := by decide +kernel
theorem dX1_takeThread_61 : decode cX1_takeThread 61 = .ok (.iastore, 1) := by decide +kernel
theorem dX1_takeThread_62 : decode cX1_takeThread 62 = .ok (.iload_n 3, 1) := by decide +kernel
theorem dX1_takeThread_63 : decode cX1_takeThread 63 = .ok (.ireturn, 1) := by decide +kernel
theorem dX1_tieWeak_0 : decode cX1_tieWeak 0 = .ok (.aload_n 0, 1) := by decide +kernel
theorem dX1_tieWeak_1 : decode cX1_tieWeak 1 = .ok (.getfield 9, 3) := by decide +kernel
theorem dX1_tieWeak_4 : decode cX1_tieWeak 4 = .ok (.iload_n 1, 1) := by decide +kernel
theorem dX1_tieWeak_5 : decode cX1_tieWeak 5 = .ok (.invokevirtual 19, 3) := by decide +kernel
theorem dX1_tieWeak_8 : decode cX1_tieWeak 8 = .ok (.ifCond .eq 14, 3) := by decide +kernel
theorem dX1_tieWeak_11 : decode cX1_tieWeak 11 = .ok (.aload_n 0, 1) := by decide +kernel
theorem dX1_tieWeak_12 : decode cX1_tieWeak 12 = .ok (.getfield 9, 3) := by decide +kernel
theorem dX1_tieWeak_15 : decode cX1_tieWeak 15 = .ok (.iload_n 2, 1) := by decide +kernel
theorem dX1_tieWeak_16 : decode cX1_tieWeak 16 = .ok (.invokevirtual 19, 3) := by decide +kernel
theorem dX1_tieWeak_19 : decode cX1_tieWeak 19 = .ok (.ifCond .ne 6, 3) := by decide +kernel
theorem dX1_tieWeak_22 : decode cX1_tieWeak 22 = .ok (.bipush (-11), 2) := by decide +kernel
theorem dX1_tieWeak_24 : decode cX1_tieWeak 24 = .ok (.ireturn, 1) := by decide +kernel
theorem dX1_tieWeak_25 : decode cX1_tieWeak 25 = .ok (.aload_n 0, 1) := by decide +kernel
theorem dX1_tieWeak_26 : decode cX1_tieWeak 26 = .ok (.getfield 9, 3) := by decide +kernel
theorem dX1_tieWeak_29 : decode cX1_tieWeak 29 = .ok (.iload_n 1, 1) := by decide +kernel
theorem dX1_tieWeak_30 : decode cX1_tieWeak 30 = .ok (.invokevirtual 61, 3) := by decide +kernel
theorem dX1_tieWeak_33 : decode cX1_tieWeak 33 = .ok (.ifCond .eq 14, 3) := by decide +kernel
theorem dX1_tieWeak_36 : decode cX1_tieWeak 36 = .ok (.aload_n 0, 1) := by decide +kernel
theorem dX1_tieWeak_37 : decode cX1_tieWeak 37 = .ok (.getfield 15, 3) := by decide +kernel
theorem dX1_tieWeak_40 : decode cX1_tieWeak 40 = .ok (.bipush 7, 2) := by decide +kernel
theorem dX1_tieWeak_42 : decode cX1_tieWeak 42 = .ok (.iload_n 1, 1) := by decide +kernel
theorem dX1_tieWeak_43 : decode cX1_tieWeak 43 = .ok (.invokevirtual 46, 3) := by decide +kernel
theorem dX1_tieWeak_46 : decode cX1_tieWeak 46 = .ok (.ireturn, 1) := by decide +kernel
theorem dX1_tieWeak_47 : decode cX1_tieWeak 47 = .ok (.aload_n 0, 1) := by decide +kernel
theorem dX1_tieWeak_48 : decode cX1_tieWeak 48 = .ok (.getfield 9, 3) := by decide +kernel
theorem dX1_tieWeak_51 : decode cX1_tieWeak 51 = .ok (.iload_n 2, 1) := by decide +kernel
theorem dX1_tieWeak_52 : decode cX1_tieWeak 52 = .ok (.invokevirtual 61, 3) := by decide +kernel
theorem dX1_tieWeak_55 : decode cX1_tieWeak 55 = .ok (.ifCond .eq 14, 3) := by decide +kernel
theorem dX1_tieWeak_58 : decode cX1_tieWeak 58 = .ok (.aload_n 0, 1) := by decide +kernel
theorem dX1_tieWeak_59 : decode cX1_tieWeak 59 = .ok (.getfield 15, 3) := by decide +kernel
theorem dX1_tieWeak_62 : decode cX1_tieWeak 62 = .ok (.bipush 7, 2) := by decide +kernel
theorem dX1_tieWeak_64 : decode cX1_tieWeak 64 = .ok (.iload_n 2, 1) := by decide +kernel
theorem dX1_tieWeak_65 : decode cX1_tieWeak 65 = .ok (.invokevirtual 46, 3) := by decide +kernel
theorem dX1_tieWeak_68 : decode cX1_tieWeak 68 = .ok (.ireturn, 1) := by decide +kernel
theorem dX1_tieWeak_69 : decode cX1_tieWeak 69 = .ok (.aload_n 0, 1) := by decide +kernel
theorem dX1_tieWeak_70 : decode cX1_tieWeak 70 = .ok (.getfield 9, 3) := by decide +kernel
theorem dX1_tieWeak_73 : decode cX1_tieWeak 73 = .ok (.getfield 74, 3) := by decide +kernel
theorem dX1_tieWeak_76 : decode cX1_tieWeak 76 = .ok (.iload_n 1, 1) := by decide +kernel
theorem dX1_tieWeak_77 : decode cX1_tieWeak 77 = .ok (.iaload, 1) := by decide +kernel
theorem dX1_tieWeak_78 : decode cX1_tieWeak 78 = .ok (.istore_n 3, 1) := by decide +kernel
theorem dX1_tieWeak_79 : decode cX1_tieWeak 79 = .ok (.aload_n 0, 1) := by decide +kernel
theorem dX1_tieWeak_80 : decode cX1_tieWeak 80 = .ok (.getfield 9, 3) := by decide +kernel
theorem dX1_tieWeak_83 : decode cX1_tieWeak 83 = .ok (.getfield 74, 3) := by decide +kernel
theorem dX1_tieWeak_86 : decode cX1_tieWeak 86 = .ok (.iload_n 1, 1) := by decide +kernel
theorem dX1_tieWeak_87 : decode cX1_tieWeak 87 = .ok (.iload_n 2, 1) := by decide +kernel
theorem dX1_tieWeak_88 : decode cX1_tieWeak 88 = .ok (.iastore, 1) := by decide +kernel
theorem dX1_tieWeak_89 : decode cX1_tieWeak 89 = .ok (.iload_n 3, 1) := by decide +kernel
theorem dX1_tieWeak_90 : decode cX1_tieWeak 90 = .ok (.ireturn, 1) := by decide +kernel
theorem dX1_takeWeak_0 : decode cX1_takeWeak 0 = .ok (.aload_n 0, 1) := by decide +kernel
theorem dX1_takeWeak_1 : decode cX1_takeWeak 1 = .ok (.getfield 9, 3) := by decide +kernel
theorem dX1_takeWeak_4 : decode cX1_takeWeak 4 = .ok (.iload_n 1, 1) := by decide +kernel
theorem dX1_takeWeak_5 : decode cX1_takeWeak 5 = .ok (.invokevirtual 19, 3) := by decide +kernel
theorem dX1_takeWeak_8 : decode cX1_takeWeak 8 = .ok (.ifCond .ne 6, 3) := by decide +kernel
theorem dX1_takeWeak_11 : decode cX1_takeWeak 11 = .ok (.bipush (-11), 2) := by decide +kernel
theorem dX1_takeWeak_13 : decode cX1_takeWeak 13 = .ok (.ireturn, 1) := by decide +kernel
theorem dX1_takeWeak_14 : decode cX1_takeWeak 14 = .ok (.aload_n 0, 1) := by decide +kernel
theorem dX1_takeWeak_15 : decode cX1_takeWeak 15 = .ok (.getfield 9, 3) := by decide +kernel
theorem dX1_takeWeak_18 : decode cX1_takeWeak 18 = .ok (.getfield 74, 3) := by decide +kernel
theorem dX1_takeWeak_21 : decode cX1_takeWeak 21 = .ok (.iload_n 1, 1) := by decide +kernel
theorem dX1_takeWeak_22 : decode cX1_takeWeak 22 = .ok (.iaload, 1) := by decide +kernel
theorem dX1_takeWeak_23 : decode cX1_takeWeak 23 = .ok (.istore_n 2, 1) := by decide +kernel
theorem dX1_takeWeak_24 : decode cX1_takeWeak 24 = .ok (.iload_n 2, 1) := by decide +kernel
theorem dX1_takeWeak_25 : decode cX1_takeWeak 25 = .ok (.bipush (-15), 2) := by decide +kernel
theorem dX1_takeWeak_27 : decode cX1_takeWeak 27 = .ok (.if_icmp .ne 13, 3) := by decide +kernel
theorem dX1_takeWeak_30 : decode cX1_takeWeak 30 = .ok (.aload_n 0, 1) := by decide +kernel
theorem dX1_takeWeak_31 : decode cX1_takeWeak 31 = .ok (.getfield 15, 3) := by decide +kernel
theorem dX1_takeWeak_34 : decode cX1_takeWeak 34 = .ok (.iconst 2, 1) := by decide +kernel
theorem dX1_takeWeak_35 : decode cX1_takeWeak 35 = .ok (.iconst 4, 1) := by decide +kernel
theorem dX1_takeWeak_36 : decode cX1_takeWeak 36 = .ok (.invokevirtual 46, 3) := by decide +kernel
theorem dX1_takeWeak_39 : decode cX1_takeWeak 39 = .ok (.ireturn, 1) := by decide +kernel
theorem dX1_takeWeak_40 : decode cX1_takeWeak 40 = .ok (.aload_n 0, 1) := by decide +kernel
theorem dX1_takeWeak_41 : decode cX1_takeWeak 41 = .ok (.getfield 9, 3) := by decide +kernel
theorem dX1_takeWeak_44 : decode cX1_takeWeak 44 = .ok (.getfield 74, 3) := by decide +kernel
theorem dX1_takeWeak_47 : decode cX1_takeWeak 47 = .ok (.iload_n 1, 1) := by decide +kernel
theorem dX1_takeWeak_48 : decode cX1_takeWeak 48 = .ok (.bipush (-15), 2) := by decide +kernel
theorem dX1_takeWeak_50 : decode cX1_takeWeak 50 = .ok (.iastore, 1) := by decide +kernel
theorem dX1_takeWeak_51 : decode cX1_takeWeak 51 = .ok (.iload_n 2, 1) := by decide +kernel
theorem dX1_takeWeak_52 : decode cX1_takeWeak 52 = .ok (.ireturn, 1) := by decide +kernel
theorem dX11_isName_0 : decode cX11_isName 0 = .ok (.iload_n 0, 1) := by decide +kernel
theorem dX11_isName_1 : decode cX11_isName 1 = .ok (.ifCond .lt 13, 3) := by decide +kernel
theorem dX11_isName_4 : decode cX11_isName 4 = .ok (.iload_n 0, 1) := by decide +kernel
theorem dX11_isName_5 : decode cX11_isName 5 = .ok (.bipush 6, 2) := by decide +kernel
theorem dX11_isName_7 : decode cX11_isName 7 = .ok (.if_icmp .ge 7, 3) := by decide +kernel
theorem dX11_isName_10 : decode cX11_isName 10 = .ok (.iconst 1, 1) := by decide +kernel
theorem dX11_isName_11 : decode cX11_isName 11 = .ok (.goto 4, 3) := by decide +kernel
theorem dX11_isName_14 : decode cX11_isName 14 = .ok (.iconst 0, 1) := by decide +kernel
theorem dX11_isName_15 : decode cX11_isName 15 = .ok (.ireturn, 1) := by decide +kernel
theorem dX1_giveName_0 : decode cX1_giveName 0 = .ok (.iload_n 1, 1) := by decide +kernel
theorem dX1_giveName_1 : decode cX1_giveName 1 = .ok (.invokestatic 77, 3) := by decide +kernel
theorem dX1_giveName_4 : decode cX1_giveName 4 = .ok (.ifCond .eq 14, 3) := by decide +kernel
theorem dX1_giveName_7 : decode cX1_giveName 7 = .ok (.aload_n 0, 1) := by decide +kernel
theorem dX1_giveName_8 : decode cX1_giveName 8 = .ok (.getfield 9, 3) := by decide +kernel
theorem dX1_giveName_11 : decode cX1_giveName 11 = .ok (.iload_n 2, 1) := by decide +kernel
theorem dX1_giveName_12 : decode cX1_giveName 12 = .ok (.invokevirtual 19, 3) := by decide +kernel
theorem dX1_giveName_15 : decode cX1_giveName 15 = .ok (.ifCond .ne 6, 3) := by decide +kernel
theorem dX1_giveName_18 : decode cX1_giveName 18 = .ok (.bipush (-11), 2) := by decide +kernel
theorem dX1_giveName_20 : decode cX1_giveName 20 = .ok (.ireturn, 1) := by decide +kernel
theorem dX1_giveName_21 : decode cX1_giveName 21 = .ok (.aload_n 0, 1) := by decide +kernel
theorem dX1_giveName_22 : decode cX1_giveName 22 = .ok (.getfield 9, 3) := by decide +kernel
theorem dX1_giveName_25 : decode cX1_giveName 25 = .ok (.iload_n 2, 1) := by decide +kernel
theorem dX1_giveName_26 : decode cX1_giveName 26 = .ok (.invokevirtual 61, 3) := by decide +kernel
theorem dX1_giveName_29 : decode cX1_giveName 29 = .ok (.ifCond .eq 14, 3) := by decide +kernel
theorem dX1_giveName_32 : decode cX1_giveName 32 = .ok (.aload_n 0, 1) := by decide +kernel
theorem dX1_giveName_33 : decode cX1_giveName 33 = .ok (.getfield 15, 3) := by decide +kernel
theorem dX1_giveName_36 : decode cX1_giveName 36 = .ok (.bipush 7, 2) := by decide +kernel
theorem dX1_giveName_38 : decode cX1_giveName 38 = .ok (.iload_n 2, 1) := by decide +kernel
theorem dX1_giveName_39 : decode cX1_giveName 39 = .ok (.invokevirtual 46, 3) := by decide +kernel
theorem dX1_giveName_42 : decode cX1_giveName 42 = .ok (.ireturn, 1) := by decide +kernel
theorem dX1_giveName_43 : decode cX1_giveName 43 = .ok (.aload_n 0, 1) := by decide +kernel
theorem dX1_giveName_44 : decode cX1_giveName 44 = .ok (.getfield 9, 3) := by decide +kernel
theorem dX1_giveName_47 : decode cX1_giveName 47 = .ok (.getfield 80, 3) := by decide +kernel
theorem dX1_giveName_50 : decode cX1_giveName 50 = .ok (.iload_n 1, 1) := by decide +kernel
theorem dX1_giveName_51 : decode cX1_giveName 51 = .ok (.iaload, 1) := by decide +kernel
theorem dX1_giveName_52 : decode cX1_giveName 52 = .ok (.istore_n 3, 1) := by decide +kernel
theorem dX1_giveName_53 : decode cX1_giveName 53 = .ok (.aload_n 0, 1) := by decide +kernel
theorem dX1_giveName_54 : decode cX1_giveName 54 = .ok (.getfield 9, 3) := by decide +kernel
theorem dX1_giveName_57 : decode cX1_giveName 57 = .ok (.getfield 80, 3) := by decide +kernel
theorem dX1_giveName_60 : decode cX1_giveName 60 = .ok (.iload_n 1, 1) := by decide +kernel
theorem dX1_giveName_61 : decode cX1_giveName 61 = .ok (.iload_n 2, 1) := by decide +kernel
theorem dX1_giveName_62 : decode cX1_giveName 62 = .ok (.iastore, 1) := by decide +kernel
theorem dX1_giveName_63 : decode cX1_giveName 63 = .ok (.aload_n 0, 1) := by decide +kernel
theorem dX1_giveName_64 : decode cX1_giveName 64 = .ok (.getfield 9, 3) := by decide +kernel
theorem dX1_giveName_67 : decode cX1_giveName 67 = .ok (.iload_n 2, 1) := by decide +kernel
theorem dX1_giveName_68 : decode cX1_giveName 68 = .ok (.invokevirtual 70, 3) := by decide +kernel
theorem dX1_giveName_71 : decode cX1_giveName 71 = .ok (.iload_n 3, 1) := by decide +kernel
theorem dX1_giveName_72 : decode cX1_giveName 72 = .ok (.ireturn, 1) := by decide +kernel
theorem dX1_takeName_0 : decode cX1_takeName 0 = .ok (.iload_n 1, 1) := by decide +kernel
theorem dX1_takeName_1 : decode cX1_takeName 1 = .ok (.invokestatic 77, 3) := by decide +kernel
theorem dX1_takeName_4 : decode cX1_takeName 4 = .ok (.ifCond .ne 6, 3) := by decide +kernel
theorem dX1_takeName_7 : decode cX1_takeName 7 = .ok (.bipush (-11), 2) := by decide +kernel
theorem dX1_takeName_9 : decode cX1_takeName 9 = .ok (.ireturn, 1) := by decide +kernel
theorem dX1_takeName_10 : decode cX1_takeName 10 = .ok (.aload_n 0, 1) := by decide +kernel
theorem dX1_takeName_11 : decode cX1_takeName 11 = .ok (.getfield 9, 3) := by decide +kernel
theorem dX1_takeName_14 : decode cX1_takeName 14 = .ok (.getfield 80, 3) := by decide +kernel
theorem dX1_takeName_17 : decode cX1_takeName 17 = .ok (.iload_n 1, 1) := by decide +kernel
theorem dX1_takeName_18 : decode cX1_takeName 18 = .ok (.iaload, 1) := by decide +kernel
theorem dX1_takeName_19 : decode cX1_takeName 19 = .ok (.istore_n 2, 1) := by decide +kernel
theorem dX1_takeName_20 : decode cX1_takeName 20 = .ok (.iload_n 2, 1) := by decide +kernel
theorem dX1_takeName_21 : decode cX1_takeName 21 = .ok (.bipush (-15), 2) := by decide +kernel
theorem dX1_takeName_23 : decode cX1_takeName 23 = .ok (.if_icmp .ne 13, 3) := by decide +kernel
theorem dX1_takeName_26 : decode cX1_takeName 26 = .ok (.aload_n 0, 1) := by decide +kernel
theorem dX1_takeName_27 : decode cX1_takeName 27 = .ok (.getfield 15, 3) := by decide +kernel
theorem dX1_takeName_30 : decode cX1_takeName 30 = .ok (.iconst 3, 1) := by decide +kernel
theorem dX1_takeName_31 : decode cX1_takeName 31 = .ok (.iload_n 1, 1) := by decide +kernel
theorem dX1_takeName_32 : decode cX1_takeName 32 = .ok (.invokevirtual 46, 3) := by decide +kernel
theorem dX1_takeName_35 : decode cX1_takeName 35 = .ok (.ireturn, 1) := by decide +kernel
theorem dX1_takeName_36 : decode cX1_takeName 36 = .ok (.aload_n 0, 1) := by decide +kernel
theorem dX1_takeName_37 : decode cX1_takeName 37 = .ok (.getfield 9, 3) := by decide +kernel
theorem dX1_takeName_40 : decode cX1_takeName 40 = .ok (.getfield 80, 3) := by decide +kernel
theorem dX1_takeName_43 : decode cX1_takeName 43 = .ok (.iload_n 1, 1) := by decide +kernel
theorem dX1_takeName_44 : decode cX1_takeName 44 = .ok (.bipush (-15), 2) := by decide +kernel
theorem dX1_takeName_46 : decode cX1_takeName 46 = .ok (.iastore, 1) := by decide +kernel
theorem dX1_takeName_47 : decode cX1_takeName 47 = .ok (.iload_n 2, 1) := by decide +kernel
theorem dX1_takeName_48 : decode cX1_takeName 48 = .ok (.ireturn, 1) := by decide +kernel
theorem dX2_urnsOf_0 : decode cX2_urnsOf 0 = .ok (.iconst 0, 1) := by decide +kernel
theorem dX2_urnsOf_1 : decode cX2_urnsOf 1 = .ok (.istore_n 2, 1) := by decide +kernel
theorem dX2_urnsOf_2 : decode cX2_urnsOf 2 = .ok (.iconst 0, 1) := by decide +kernel
theorem dX2_urnsOf_3 : decode cX2_urnsOf 3 = .ok (.istore_n 3, 1) := by decide +kernel
theorem dX2_urnsOf_4 : decode cX2_urnsOf 4 = .ok (.iload_n 3, 1) := by decide +kernel
theorem dX2_urnsOf_5 : decode cX2_urnsOf 5 = .ok (.bipush 24, 2) := by decide +kernel
theorem dX2_urnsOf_7 : decode cX2_urnsOf 7 = .ok (.if_icmp .ge 22, 3) := by decide +kernel
theorem dX2_urnsOf_10 : decode cX2_urnsOf 10 = .ok (.aload_n 0, 1) := by decide +kernel
theorem dX2_urnsOf_11 : decode cX2_urnsOf 11 = .ok (.getfield 21, 3) := by decide +kernel
theorem dX2_urnsOf_14 : decode cX2_urnsOf 14 = .ok (.iload_n 3, 1) := by decide +kernel
theorem dX2_urnsOf_15 : decode cX2_urnsOf 15 = .ok (.iaload, 1) := by decide +kernel
theorem dX2_urnsOf_16 : decode cX2_urnsOf 16 = .ok (.iload_n 1, 1) := by decide +kernel
theorem dX2_urnsOf_17 : decode cX2_urnsOf 17 = .ok (.if_icmp .ne 6, 3) := by decide +kernel
theorem dX2_urnsOf_20 : decode cX2_urnsOf 20 = .ok (.iinc 2 1, 3) := by decide +kernel
theorem dX2_urnsOf_23 : decode cX2_urnsOf 23 = .ok (.iinc 3 1, 3) := by decide +kernel
theorem dX2_urnsOf_26 : decode cX2_urnsOf 26 = .ok (.goto (-22), 3) := by decide +kernel
theorem dX2_urnsOf_29 : decode cX2_urnsOf 29 = .ok (.iload_n 2, 1) := by decide +kernel
theorem dX2_urnsOf_30 : decode cX2_urnsOf 30 = .ok (.ireturn, 1) := by decide +kernel
theorem dX2_urns_0 : decode cX2_urns 0 = .ok (.bipush 24, 2) := by decide +kernel
theorem dX2_urns_2 : decode cX2_urns 2 = .ok (.aload_n 0, 1) := by decide +kernel
theorem dX2_urns_3 : decode cX2_urns 3 = .ok (.iconst (-1), 1) := by decide +kernel
theorem dX2_urns_4 : decode cX2_urns 4 = .ok (.invokevirtual 94, 3) := by decide +kernel
theorem dX2_urns_7 : decode cX2_urns 7 = .ok (.isub, 1) := by decide +kernel
theorem dX2_urns_8 : decode cX2_urns 8 = .ok (.ireturn, 1) := by decide +kernel
theorem dX2_namesInUse_0 : decode cX2_namesInUse 0 = .ok (.iconst 0, 1) := by decide +kernel
theorem dX2_namesInUse_1 : decode cX2_namesInUse 1 = .ok (.istore_n 1, 1) := by decide +kernel
theorem dX2_namesInUse_2 : decode cX2_namesInUse 2 = .ok (.iconst 0, 1) := by decide +kernel
theorem dX2_namesInUse_3 : decode cX2_namesInUse 3 = .ok (.istore_n 2, 1) := by decide +kernel
theorem dX2_namesInUse_4 : decode cX2_namesInUse 4 = .ok (.iload_n 2, 1) := by decide +kernel
theorem dX2_namesInUse_5 : decode cX2_namesInUse 5 = .ok (.bipush 6, 2) := by decide +kernel
theorem dX2_namesInUse_7 : decode cX2_namesInUse 7 = .ok (.if_icmp .ge 23, 3) := by decide +kernel
theorem dX2_namesInUse_10 : decode cX2_namesInUse 10 = .ok (.aload_n 0, 1) := by decide +kernel
theorem dX2_namesInUse_11 : decode cX2_namesInUse 11 = .ok (.getfield 27, 3) := by decide +kernel
theorem dX2_namesInUse_14 : decode cX2_namesInUse 14 = .ok (.iload_n 2, 1) := by decide +kernel
theorem dX2_namesInUse_15 : decode cX2_namesInUse 15 = .ok (.iaload, 1) := by decide +kernel
theorem dX2_namesInUse_16 : decode cX2_namesInUse 16 = .ok (.bipush (-15), 2) := by decide +kernel
theorem dX2_namesInUse_18 : decode cX2_namesInUse 18 = .ok (.if_icmp .eq 6, 3) := by decide +kernel
theorem dX2_namesInUse_21 : decode cX2_namesInUse 21 = .ok (.iinc 1 1, 3) := by decide +kernel
theorem dX2_namesInUse_24 : decode cX2_namesInUse 24 = .ok (.iinc 2 1, 3) := by decide +kernel
theorem dX2_namesInUse_27 : decode cX2_namesInUse 27 = .ok (.goto (-23), 3) := by decide +kernel
theorem dX2_namesInUse_30 : decode cX2_namesInUse 30 = .ok (.iload_n 1, 1) := by decide +kernel
theorem dX2_namesInUse_31 : decode cX2_namesInUse 31 = .ok (.ireturn, 1) := by decide +kernel
def f_X8_refuse (μ : mu_T) (a1 : Int) (a2 : Int) : Option (Int × mu_T) :=
  wf_ μ 133 0 a1 (fun μ2 => wf_ μ2 133 1 a2 (fun μ7 => some ((-14), μ7)))
set_option maxHeartbeats 4000000 in
set_option maxRecDepth 100000 in
theorem c_X8_refuse {G : gp_} {ad : Nat → Nat} (μ : mu_T) (a1 : Int) (a2 : Int) (a : Int) (μr : mu_T) (h : f_X8_refuse μ a1 a2 = some (a, μr)) : mi_ yX8_refuse cX8_refuse 3 (some .int) ({ frames := 0, cells := 0, slots := 0, locals := 0 } : Room) G 151 ad (ceX G ad) [.ref (ad 133), .int (iI a1), .int (iI a2)] μ a μr := by
  refine mi_in (own := "UrnHeap$Refusals") (lv := [(0, .ref (ad 133)), (1, .int (iI a1)), (2, .int (iI a2))]) (by decide) rfl rfl (Nat.le_of_ble_eq_true rfl) (fun X C E => ?_)
  unfold f_X8_refuse at h
  refine xx_aload_n C 1 rfl 0 dX8_refuse_0 rfl rfl ?_
  refine xx_iload_n C 2 rfl 1 dX8_refuse_1 rfl rfl ?_
  refine xx_puti (fi := 0) (j := 0) C 5 rfl (by decide) (ceX_133 _ _ _) (puX_133_0 _ _ _ _) rfl in_X8 tyX8 tyX8_ok nmX8 (by decide) (Nat.le_of_ble_eq_true rfl) ⟨rfl, rfl, rfl⟩ w_237 dX8_refuse_2 h (fun μ2 h => ?_)
  refine xx_aload_n C 6 rfl 0 dX8_refuse_5 rfl rfl ?_
  refine xx_iload_n C 7 rfl 2 dX8_refuse_6 rfl rfl ?_
  refine xx_puti (fi := 1) (j := 1) C 10 rfl (by decide) (ceX_133 _ _ _) (puX_133_1 _ _ _ _) rfl in_X8 tyX8 tyX8_ok nmX8 (by decide) (Nat.le_of_ble_eq_true rfl) ⟨rfl, rfl, rfl⟩ w_239 dX8_refuse_7 h (fun μ7 h => ?_)
  refine xx_bipush C 12 rfl dX8_refuse_10 (by decide) ?_
  exact xx_iret C E rfl ⟨Nat.le_of_ble_eq_true rfl, Nat.le_of_ble_eq_true rfl⟩ dX8_refuse_12 h

def f_X1_colourOfNew (μ : mu_T) (a1 : Int) : Option Int :=
  nm_ (μ 0 9) (fun v4 => jn_ (φ := Int → Option Int) (fun s0_27 => nm_ (μ 0 9) (fun v32 => eq_ v32 1
      (some 2)
      (eq_ s0_27 0
      (some 0)
      (some 2))))
      (fun J27 => jn_ (φ := Unit → Option Int) (fun _ => J27 0)
      (fun J26 => eq_ v4 2
      (nm_ (μ 0 10) (fun v16 => lt_ a1 v16
      (J26 ())
      (J27 1)))
      (J26 ()))))
set_option maxHeartbeats 4000000 in
set_option maxRecDepth 100000 in
theorem c_X1_colourOfNew {G : gp_} {ad : Nat → Nat} (μ : mu_T) (a1 : Int) (a : Int) (h : f_X1_colourOfNew μ a1 = some a) : mi_ yX1_colourOfNew cX1_colourOfNew 3 (some .int) ({ frames := 0, cells := 0, slots := 0, locals := 0 } : Room) G 151 ad (ceX G ad) [.ref (ad 134), .int (iI a1)] μ a μ := by
  refine mi_in (own := "UrnHeap$Hands") (lv := [(0, .ref (ad 134)), (1, .int (iI a1))]) (by decide) rfl rfl (Nat.le_of_ble_eq_true rfl) (fun X C E => ?_)
  unfold f_X1_colourOfNew at h
  refine xx_aload_n C 1 rfl 0 dX1_colourOfNew_0 rfl rfl ?_
  refine xx_getr (fi := 0) C 4 rfl (by decide) (ceX_134 _ _ _) rfl in_X1 (by decide) rfl rfl w_252 dX1_colourOfNew_1 ?_
  refine xx_geti (fi := 9) (j := 9) C 7 rfl (by decide) (ceX_0 _ _ _) rfl in_X2 (by decide) rfl rfl w_171 dX1_colourOfNew_4 h (fun v4 h => ?_)
  refine xx_iconst C 8 rfl dX1_colourOfNew_7 ?_
  refine jn_r (fun J => ∀ (s0_27 : Int), J s0_27 = some a → wx_ G X 151 ad (ceX G ad) μ 0 0 27 [(0, .ref (ad 134))] [.int (iI s0_27)]) h (fun s0_27 h => ?_) (fun J27 K27 h => ?_)
  · refine xx_istore_n (lv1 := [(2, .int (iI s0_27)), (0, .ref (ad 134))]) C 28 rfl (by decide) dX1_colourOfNew_27 rfl rfl ?_
    refine xx_aload_n C 29 rfl 1 dX1_colourOfNew_28 rfl rfl ?_
    refine xx_getr (fi := 0) C 32 rfl (by decide) (ceX_134 _ _ _) rfl in_X1 (by decide) rfl rfl w_252 dX1_colourOfNew_29 ?_
    refine xx_geti (fi := 9) (j := 9) C 35 rfl (by decide) (ceX_0 _ _ _) rfl in_X2 (by decide) rfl rfl w_171 dX1_colourOfNew_32 h (fun v32 h => ?_)
    refine xx_iconst C 36 rfl dX1_colourOfNew_35 ?_
    refine xx_icmp_eq (tgt := 43) C 39 rfl dX1_colourOfNew_36 (by decide) h (fun h => ?_) (fun h => ?_)
    · refine xx_iconst C 44 rfl dX1_colourOfNew_43 ?_
      refine xx_goto C 48 dX1_colourOfNew_44 (by decide) ?_
      exact xx_iretp C E rfl ⟨Nat.le_of_ble_eq_true rfl, Nat.le_of_ble_eq_true rfl⟩ dX1_colourOfNew_48 h
    · refine xx_iload_n C 40 rfl 0 dX1_colourOfNew_39 rfl rfl ?_
      refine xx_if_eq (tgt := 47) C 43 rfl dX1_colourOfNew_40 (by decide) h (fun h => ?_) (fun h => ?_)
      · refine xx_iconst C 48 rfl dX1_colourOfNew_47 ?_
        exact xx_iretp C E rfl ⟨Nat.le_of_ble_eq_true rfl, Nat.le_of_ble_eq_true rfl⟩ dX1_colourOfNew_48 h
      · refine xx_iconst C 44 rfl dX1_colourOfNew_43 ?_
        refine xx_goto C 48 dX1_colourOfNew_44 (by decide) ?_
        exact xx_iretp C E rfl ⟨Nat.le_of_ble_eq_true rfl, Nat.le_of_ble_eq_true rfl⟩ dX1_colourOfNew_48 h
  · refine jn_r (fun J => ∀ (_u : Unit), J _u = some a → wx_ G X 151 ad (ceX G ad) μ 0 0 26 [(0, .ref (ad 134))] []) h (fun _ h => ?_) (fun J26 K26 h => ?_)
    · refine xx_iconst C 27 rfl dX1_colourOfNew_26 ?_
      exact K27 0 h
    · refine xx_icmp_ne (tgt := 26) C 11 rfl dX1_colourOfNew_8 (by decide) h (fun h => ?_) (fun h => ?_)
      · refine xx_sub [0] rfl ?_
        exact K26 () h
      · refine xx_iload_n C 12 rfl 1 dX1_colourOfNew_11 rfl rfl ?_
        refine xx_aload_n C 13 rfl 0 dX1_colourOfNew_12 rfl rfl ?_
        refine xx_getr (fi := 0) C 16 rfl (by decide) (ceX_134 _ _ _) rfl in_X1 (by decide) rfl rfl w_252 dX1_colourOfNew_13 ?_
        refine xx_geti (fi := 10) (j := 10) C 19 rfl (by decide) (ceX_0 _ _ _) rfl in_X2 (by decide) rfl rfl w_174 dX1_colourOfNew_16 h (fun v16 h => ?_)
        refine xx_icmp_lt (tgt := 26) C 22 rfl dX1_colourOfNew_19 (by decide) h (fun h => ?_) (fun h => ?_)
        · refine xx_sub [0] rfl ?_
          exact K26 () h
        · refine xx_iconst C 23 rfl dX1_colourOfNew_22 ?_
          refine xx_goto C 27 dX1_colourOfNew_23 (by decide) ?_
          refine xx_sub [0] rfl ?_
          exact K27 1 h

def f_X2_hasUrn (μ : mu_T) (a1 : Int) : Option Int :=
  lt_ a1 0
      (some 0)
      (lt_ a1 24
      (rd_ μ 4 24 a1 (fun v15 => eq_ v15 (-1)
      (some 0)
      (some 1)))
      (some 0))
set_option maxHeartbeats 4000000 in
set_option maxRecDepth 100000 in
theorem c_X2_hasUrn {G : gp_} {ad : Nat → Nat} (μ : mu_T) (a1 : Int) (a : Int) (h : f_X2_hasUrn μ a1 = some a) : mi_ yX2_hasUrn cX2_hasUrn 2 (some .boolean) ({ frames := 0, cells := 0, slots := 0, locals := 0 } : Room) G 151 ad (ceX G ad) [.ref (ad 0), .int (iI a1)] μ a μ := by
  refine mi_in (own := "UrnHeap$Heap") (lv := [(0, .ref (ad 0)), (1, .int (iI a1))]) (by decide) rfl rfl (Nat.le_of_ble_eq_true rfl) (fun X C E => ?_)
  unfold f_X2_hasUrn at h
  refine xx_iload_n C 1 rfl 1 dX2_hasUrn_0 rfl rfl ?_
  refine xx_if_lt (tgt := 24) C 4 rfl dX2_hasUrn_1 (by decide) h (fun h => ?_) (fun h => ?_)
  · refine xx_iconst C 25 rfl dX2_hasUrn_24 ?_
    exact xx_zretl C E rfl rfl ⟨Nat.le_of_ble_eq_true rfl, Nat.le_of_ble_eq_true rfl⟩ dX2_hasUrn_25 h
  · refine xx_iload_n C 5 rfl 1 dX2_hasUrn_4 rfl rfl ?_
    refine xx_bipush C 7 rfl dX2_hasUrn_5 (by decide) ?_
    refine xx_icmp_ge (tgt := 24) C 10 rfl dX2_hasUrn_7 (by decide) h (fun h => ?_) (fun h => ?_)
    · refine xx_iconst C 25 rfl dX2_hasUrn_24 ?_
      exact xx_zretl C E rfl rfl ⟨Nat.le_of_ble_eq_true rfl, Nat.le_of_ble_eq_true rfl⟩ dX2_hasUrn_25 h
    · refine xx_aload_n C 11 rfl 0 dX2_hasUrn_10 rfl rfl ?_
      refine xx_getr (fi := 3) C 14 rfl (by decide) (ceX_0 _ _ _) rfl in_X2 (by decide) rfl rfl w_149 dX2_hasUrn_11 ?_
      refine xx_iload_n C 15 rfl 1 dX2_hasUrn_14 rfl rfl ?_
      refine xx_iaload C 16 rfl (by decide) (fun row => ceX_4 _ _ row) (by decide) dX2_hasUrn_15 h (fun v15 h => ?_)
      refine xx_iconst C 17 rfl dX2_hasUrn_16 ?_
      refine xx_icmp_eq (tgt := 24) C 20 rfl dX2_hasUrn_17 (by decide) h (fun h => ?_) (fun h => ?_)
      · refine xx_iconst C 25 rfl dX2_hasUrn_24 ?_
        exact xx_zretl C E rfl rfl ⟨Nat.le_of_ble_eq_true rfl, Nat.le_of_ble_eq_true rfl⟩ dX2_hasUrn_25 h
      · refine xx_iconst C 21 rfl dX2_hasUrn_20 ?_
        refine xx_goto C 25 dX2_hasUrn_21 (by decide) ?_
        exact xx_zretl C E rfl rfl ⟨Nat.le_of_ble_eq_true rfl, Nat.le_of_ble_eq_true rfl⟩ dX2_hasUrn_25 h

def f_X1_makeUrn_L2 (J19 : Int → Option (Int × mu_T)) (J88 : Unit → Option (Int × mu_T)) (μ : mu_T) : Nat → Int → Option (Int × mu_T)
  | 0, _ => none
  | fu2 + 1, x2_2 => lt_ x2_2 24
      (bd_ (f_X2_hasUrn μ x2_2) (fun v13 => eq_ v13 0
      (J19 x2_2)
      (nm_ (x2_2 + 1) (fun n82 => (f_X1_makeUrn_L2 J19 J88 μ fu2) n82))))
      (J88 ())
def f_X1_makeUrn (μ : mu_T) (a1 : Int) : Option (Int × mu_T) :=
  jn_ (φ := Unit → Option (Int × mu_T)) (fun _ => bp_ (f_X8_refuse μ 1 24) (fun v95 μ95 => some (v95, μ95)))
      (fun J88 => jn_ (φ := Int → Option (Int × mu_T)) (fun x2_19 => bd_ (f_X1_colourOfNew μ x2_19) (fun v29 => wr_ μ 4 24 x2_19 v29 (fun μ32 => jn_ (φ := Int → Option (Int × mu_T)) (fun s0_50 => wr_ μ32 3 24 x2_19 s0_50 (fun μ50 => nm_ (μ50 0 11) (fun v63 => wr_ μ50 5 24 x2_19 v63 (fun μ66 => nm_ (μ66 0 12) (fun v72 => wf_ μ66 0 12 (v72 + 1) (fun μ77 => some (x2_19, μ77)))))))
      (fun J50 => eq_ a1 0
      (J50 0)
      (J50 1)))))
      (fun J19 => f_X1_makeUrn_L2 J19 J88 μ 20000 0))
set_option maxHeartbeats 4000000 in
set_option maxRecDepth 100000 in
theorem c_X1_makeUrn {G : gp_} {ad : Nat → Nat} (μ : mu_T) (a1 : Int) (a : Int) (μr : mu_T) (h : f_X1_makeUrn μ a1 = some (a, μr)) : mi_ yX1_makeUrn cX1_makeUrn 3 (some .int) ({ frames := 1, cells := 0, slots := 0, locals := 22 } : Room) G 151 ad (ceX G ad) [.ref (ad 134), .int (iI a1)] μ a μr := by
  refine mi_in (own := "UrnHeap$Hands") (lv := [(0, .ref (ad 134)), (1, .int (iI a1))]) (by decide) rfl rfl (Nat.le_of_ble_eq_true rfl) (fun X C E => ?_)
  unfold f_X1_makeUrn at h
  refine xx_iconst C 1 rfl dX1_makeUrn_0 ?_
  refine xx_istore_n (lv1 := [(2, .int (iI 0)), (0, .ref (ad 134)), (1, .int (iI a1))]) C 2 rfl (by decide) dX1_makeUrn_1 rfl rfl ?_
  refine jn_r (fun J => ∀ (_u : Unit), J _u = some (a, μr) → wx_ G X 151 ad (ceX G ad) μ 0 0 88 [(0, .ref (ad 134))] []) h (fun _ h => ?_) (fun J88 K88 h => ?_)
  · refine xx_aload_n C 89 rfl 0 dX1_makeUrn_88 rfl rfl ?_
    refine xx_getr (fi := 1) C 92 rfl (by decide) (ceX_134 _ _ _) rfl in_X1 (by decide) rfl rfl w_253 dX1_makeUrn_89 ?_
    refine xx_iconst C 93 rfl dX1_makeUrn_92 ?_
    refine xx_bipush C 95 rfl dX1_makeUrn_93 (by decide) ?_
    refine xx_cVi (As := [.int (iI 1), .int (iI 24)]) (st := []) (o := 133) C 98 rfl (by decide) (ceX_133 _ _ _) rfl rfl ca_X8_refuse cv_X8_refuse w_453 rfl ⟨Nat.le_of_ble_eq_true rfl, Nat.le_of_ble_eq_true rfl⟩ ⟨Nat.le_of_ble_eq_true rfl, Nat.le_of_ble_eq_true rfl⟩ (Nat.le_of_ble_eq_true rfl) dX1_makeUrn_95 (fun v95 μ95 e9 => c_X8_refuse _ _ _ v95 μ95 e9) h (fun v95 μ95 h => ?_) rfl
    exact xx_iret C E rfl ⟨Nat.le_of_ble_eq_true rfl, Nat.le_of_ble_eq_true rfl⟩ dX1_makeUrn_98 h
  · refine jn_r (fun J => ∀ (x2_19 : Int), J x2_19 = some (a, μr) → wx_ G X 151 ad (ceX G ad) μ 0 0 19 [(0, .ref (ad 134)), (1, .int (iI a1)), (2, .int (iI x2_19))] []) h (fun x2_19 h => ?_) (fun J19 K19 h => ?_)
    · refine xx_aload_n C 20 rfl 0 dX1_makeUrn_19 rfl rfl ?_
      refine xx_getr (fi := 0) C 23 rfl (by decide) (ceX_134 _ _ _) rfl in_X1 (by decide) rfl rfl w_252 dX1_makeUrn_20 ?_
      refine xx_getr (fi := 3) C 26 rfl (by decide) (ceX_0 _ _ _) rfl in_X2 (by decide) rfl rfl w_150 dX1_makeUrn_23 ?_
      refine xx_iload_n C 27 rfl 2 dX1_makeUrn_26 rfl rfl ?_
      refine xx_aload_n C 28 rfl 0 dX1_makeUrn_27 rfl rfl ?_
      refine xx_iload_n C 29 rfl 2 dX1_makeUrn_28 rfl rfl ?_
      refine xx_cVip (As := [.int (iI x2_19)]) (st := [.int (iI x2_19), .ref (ad 4)]) (o := 134) C 32 rfl (by decide) (ceX_134 _ _ _) rfl rfl ca_X1_colourOfNew cv_X1_colourOfNew w_449 rfl ⟨Nat.le_of_ble_eq_true rfl, Nat.le_of_ble_eq_true rfl⟩ ⟨Nat.le_of_ble_eq_true rfl, Nat.le_of_ble_eq_true rfl⟩ (Nat.le_of_ble_eq_true rfl) dX1_makeUrn_29 (fun v29 e9 => c_X1_colourOfNew _ _ v29 e9) h (fun v29 h => ?_) rfl
      refine xx_iastore C 33 rfl (by decide) (fun row => ceX_4 _ _ row) (by decide) dX1_makeUrn_32 h (fun μ32 h => ?_)
      refine xx_aload_n C 34 rfl 0 dX1_makeUrn_33 rfl rfl ?_
      refine xx_getr (fi := 0) C 37 rfl (by decide) (ceX_134 _ _ _) rfl in_X1 (by decide) rfl rfl w_252 dX1_makeUrn_34 ?_
      refine xx_getr (fi := 2) C 40 rfl (by decide) (ceX_0 _ _ _) rfl in_X2 (by decide) rfl rfl w_144 dX1_makeUrn_37 ?_
      refine xx_iload_n C 41 rfl 2 dX1_makeUrn_40 rfl rfl ?_
      refine xx_iload_n C 42 rfl 1 dX1_makeUrn_41 rfl rfl ?_
      refine jn_r (fun J => ∀ (s0_50 : Int), J s0_50 = some (a, μr) → wx_ G X 151 ad (ceX G ad) μ32 0 0 50 [(0, .ref (ad 134)), (2, .int (iI x2_19))] [.int (iI s0_50), .int (iI x2_19), .ref (ad 3)]) h (fun s0_50 h => ?_) (fun J50 K50 h => ?_)
      · refine xx_iastore C 51 rfl (by decide) (fun row => ceX_3 _ _ row) (by decide) dX1_makeUrn_50 h (fun μ50 h => ?_)
        refine xx_aload_n C 52 rfl 0 dX1_makeUrn_51 rfl rfl ?_
        refine xx_getr (fi := 0) C 55 rfl (by decide) (ceX_134 _ _ _) rfl in_X1 (by decide) rfl rfl w_252 dX1_makeUrn_52 ?_
        refine xx_getr (fi := 4) C 58 rfl (by decide) (ceX_0 _ _ _) rfl in_X2 (by decide) rfl rfl w_155 dX1_makeUrn_55 ?_
        refine xx_iload_n C 59 rfl 1 dX1_makeUrn_58 rfl rfl ?_
        refine xx_aload_n C 60 rfl 0 dX1_makeUrn_59 rfl rfl ?_
        refine xx_getr (fi := 0) C 63 rfl (by decide) (ceX_134 _ _ _) rfl in_X1 (by decide) rfl rfl w_252 dX1_makeUrn_60 ?_
        refine xx_geti (fi := 11) (j := 11) C 66 rfl (by decide) (ceX_0 _ _ _) rfl in_X2 (by decide) rfl rfl w_178 dX1_makeUrn_63 h (fun v63 h => ?_)
        refine xx_iastore C 67 rfl (by decide) (fun row => ceX_5 _ _ row) (by decide) dX1_makeUrn_66 h (fun μ66 h => ?_)
        refine xx_aload_n C 68 rfl 0 dX1_makeUrn_67 rfl rfl ?_
        refine xx_getr (fi := 0) C 71 rfl (by decide) (ceX_134 _ _ _) rfl in_X1 (by decide) rfl rfl w_252 dX1_makeUrn_68 ?_
        refine xx_dup C 72 rfl dX1_makeUrn_71 rfl ?_
        refine xx_geti (fi := 12) (j := 12) C 75 rfl (by decide) (ceX_0 _ _ _) rfl in_X2 (by decide) rfl rfl w_182 dX1_makeUrn_72 h (fun v72 h => ?_)
        refine xx_iconst C 76 rfl dX1_makeUrn_75 ?_
        refine xx_iadd C 77 rfl dX1_makeUrn_76 ?_
        refine xx_puti (fi := 12) (j := 12) C 80 rfl (by decide) (ceX_0 _ _ _) (puX_0_12 _ _ _ _) rfl in_X2 tyX2 tyX2_ok nmX2 (by decide) (Nat.le_of_ble_eq_true rfl) ⟨rfl, rfl, rfl⟩ w_182 dX1_makeUrn_77 h (fun μ77 h => ?_)
        refine xx_iload_n C 81 rfl 1 dX1_makeUrn_80 rfl rfl ?_
        exact xx_iret C E rfl ⟨Nat.le_of_ble_eq_true rfl, Nat.le_of_ble_eq_true rfl⟩ dX1_makeUrn_81 h
      · refine xx_if_eq (tgt := 49) C 45 rfl dX1_makeUrn_42 (by decide) h (fun h => ?_) (fun h => ?_)
        · refine xx_iconst C 50 rfl dX1_makeUrn_49 ?_
          refine xx_sub [0, 2] rfl ?_
          exact K50 0 h
        · refine xx_iconst C 46 rfl dX1_makeUrn_45 ?_
          refine xx_goto C 50 dX1_makeUrn_46 (by decide) ?_
          refine xx_sub [0, 2] rfl ?_
          exact K50 1 h
    · have L2 : ∀ (fu2 : Nat) (x2_2 : Int), f_X1_makeUrn_L2 J19 J88 μ fu2 x2_2 = some (a, μr) → wx_ G X 151 ad (ceX G ad) μ 0 0 2 [(0, .ref (ad 134)), (1, .int (iI a1)), (2, .int (iI x2_2))] [] := by
        intro fu2
        induction fu2 with
        | zero => intro x2_2 h; exact nn_ h
        | succ fu2 K2 =>
          intro x2_2 h
          rw [f_X1_makeUrn_L2] at h
          generalize f_X1_makeUrn_L2 J19 J88 μ fu2 = R2 at K2 h
          refine xx_iload_n C 3 rfl 2 dX1_makeUrn_2 rfl rfl ?_
          refine xx_bipush C 5 rfl dX1_makeUrn_3 (by decide) ?_
          refine xx_icmp_ge (tgt := 88) C 8 rfl dX1_makeUrn_5 (by decide) h (fun h => ?_) (fun h => ?_)
          · refine xx_sub [0] rfl ?_
            exact K88 () h
          · refine xx_aload_n C 9 rfl 0 dX1_makeUrn_8 rfl rfl ?_
            refine xx_getr (fi := 0) C 12 rfl (by decide) (ceX_134 _ _ _) rfl in_X1 (by decide) rfl rfl w_252 dX1_makeUrn_9 ?_
            refine xx_iload_n C 13 rfl 2 dX1_makeUrn_12 rfl rfl ?_
            refine xx_cVip (As := [.int (iI x2_2)]) (st := []) (o := 0) C 16 rfl (by decide) (ceX_0 _ _ _) rfl rfl ca_X2_hasUrn cv_X2_hasUrn w_445 rfl ⟨Nat.le_of_ble_eq_true rfl, Nat.le_of_ble_eq_true rfl⟩ ⟨Nat.le_of_ble_eq_true rfl, Nat.le_of_ble_eq_true rfl⟩ (Nat.le_of_ble_eq_true rfl) dX1_makeUrn_13 (fun v13 e9 => c_X2_hasUrn _ _ v13 e9) h (fun v13 h => ?_) rfl
            refine xx_if_ne (tgt := 82) C 19 rfl dX1_makeUrn_16 (by decide) h (fun h => ?_) (fun h => ?_)
            · refine xx_iincn C 85 rfl 2 (by decide) dX1_makeUrn_82 rfl h (fun n82 h => ?_)
              refine xx_lv (lv1 := [(2, .int (iI n82)), (0, .ref (ad 134)), (1, .int (iI a1))]) rfl ?_
              refine xx_goto C 2 dX1_makeUrn_85 (by decide) ?_
              refine xx_sub [1, 2, 0] rfl ?_
              exact K2 n82 h
            · exact K19 x2_2 h
      refine xx_sub [1, 2, 0] rfl ?_
      exact L2 _ _ h

def f_X11_isSlot (μ : mu_T) (a0 : Int) : Option Int :=
  lt_ a0 0
      (some 0)
      (lt_ a0 4
      (some 1)
      (some 0))
set_option maxHeartbeats 4000000 in
set_option maxRecDepth 100000 in
theorem c_X11_isSlot {G : gp_} {ad : Nat → Nat} (μ : mu_T) (a0 : Int) (a : Int) (h : f_X11_isSlot μ a0 = some a) : mi_ yX11_isSlot cX11_isSlot 1 (some .boolean) ({ frames := 0, cells := 0, slots := 0, locals := 0 } : Room) G 151 ad (ceX G ad) [.int (iI a0)] μ a μ := by
  refine mi_in (own := "UrnHeap") (lv := [(0, .int (iI a0))]) (by decide) rfl rfl (Nat.le_of_ble_eq_true rfl) (fun X C E => ?_)
  unfold f_X11_isSlot at h
  refine xx_iload_n C 1 rfl 0 dX11_isSlot_0 rfl rfl ?_
  refine xx_if_lt (tgt := 13) C 4 rfl dX11_isSlot_1 (by decide) h (fun h => ?_) (fun h => ?_)
  · refine xx_iconst C 14 rfl dX11_isSlot_13 ?_
    exact xx_zretl C E rfl rfl ⟨Nat.le_of_ble_eq_true rfl, Nat.le_of_ble_eq_true rfl⟩ dX11_isSlot_14 h
  · refine xx_iload_n C 5 rfl 0 dX11_isSlot_4 rfl rfl ?_
    refine xx_iconst C 6 rfl dX11_isSlot_5 ?_
    refine xx_icmp_ge (tgt := 13) C 9 rfl dX11_isSlot_6 (by decide) h (fun h => ?_) (fun h => ?_)
    · refine xx_iconst C 14 rfl dX11_isSlot_13 ?_
      exact xx_zretl C E rfl rfl ⟨Nat.le_of_ble_eq_true rfl, Nat.le_of_ble_eq_true rfl⟩ dX11_isSlot_14 h
    · refine xx_iconst C 10 rfl dX11_isSlot_9 ?_
      refine xx_goto C 14 dX11_isSlot_10 (by decide) ?_
      exact xx_zretl C E rfl rfl ⟨Nat.le_of_ble_eq_true rfl, Nat.le_of_ble_eq_true rfl⟩ dX11_isSlot_14 h

def f_X2_isWhite (μ : mu_T) (a1 : Int) : Option Int :=
  lt_ a1 0
      (some 0)
      (lt_ a1 24
      (rd_ μ 4 24 a1 (fun v15 => eq_ v15 0
      (some 1)
      (some 0)))
      (some 0))
set_option maxHeartbeats 4000000 in
set_option maxRecDepth 100000 in
theorem c_X2_isWhite {G : gp_} {ad : Nat → Nat} (μ : mu_T) (a1 : Int) (a : Int) (h : f_X2_isWhite μ a1 = some a) : mi_ yX2_isWhite cX2_isWhite 2 (some .boolean) ({ frames := 0, cells := 0, slots := 0, locals := 0 } : Room) G 151 ad (ceX G ad) [.ref (ad 0), .int (iI a1)] μ a μ := by
  refine mi_in (own := "UrnHeap$Heap") (lv := [(0, .ref (ad 0)), (1, .int (iI a1))]) (by decide) rfl rfl (Nat.le_of_ble_eq_true rfl) (fun X C E => ?_)
  unfold f_X2_isWhite at h
  refine xx_iload_n C 1 rfl 1 dX2_isWhite_0 rfl rfl ?_
  refine xx_if_lt (tgt := 23) C 4 rfl dX2_isWhite_1 (by decide) h (fun h => ?_) (fun h => ?_)
  · refine xx_iconst C 24 rfl dX2_isWhite_23 ?_
    exact xx_zretl C E rfl rfl ⟨Nat.le_of_ble_eq_true rfl, Nat.le_of_ble_eq_true rfl⟩ dX2_isWhite_24 h
  · refine xx_iload_n C 5 rfl 1 dX2_isWhite_4 rfl rfl ?_
    refine xx_bipush C 7 rfl dX2_isWhite_5 (by decide) ?_
    refine xx_icmp_ge (tgt := 23) C 10 rfl dX2_isWhite_7 (by decide) h (fun h => ?_) (fun h => ?_)
    · refine xx_iconst C 24 rfl dX2_isWhite_23 ?_
      exact xx_zretl C E rfl rfl ⟨Nat.le_of_ble_eq_true rfl, Nat.le_of_ble_eq_true rfl⟩ dX2_isWhite_24 h
    · refine xx_aload_n C 11 rfl 0 dX2_isWhite_10 rfl rfl ?_
      refine xx_getr (fi := 3) C 14 rfl (by decide) (ceX_0 _ _ _) rfl in_X2 (by decide) rfl rfl w_149 dX2_isWhite_11 ?_
      refine xx_iload_n C 15 rfl 1 dX2_isWhite_14 rfl rfl ?_
      refine xx_iaload C 16 rfl (by decide) (fun row => ceX_4 _ _ row) (by decide) dX2_isWhite_15 h (fun v15 h => ?_)
      refine xx_if_ne (tgt := 23) C 19 rfl dX2_isWhite_16 (by decide) h (fun h => ?_) (fun h => ?_)
      · refine xx_iconst C 24 rfl dX2_isWhite_23 ?_
        exact xx_zretl C E rfl rfl ⟨Nat.le_of_ble_eq_true rfl, Nat.le_of_ble_eq_true rfl⟩ dX2_isWhite_24 h
      · refine xx_iconst C 20 rfl dX2_isWhite_19 ?_
        refine xx_goto C 24 dX2_isWhite_20 (by decide) ?_
        exact xx_zretl C E rfl rfl ⟨Nat.le_of_ble_eq_true rfl, Nat.le_of_ble_eq_true rfl⟩ dX2_isWhite_24 h

def f_X2_isToBeSwept (μ : mu_T) (a1 : Int) : Option Int :=
  nm_ (μ 0 9) (fun v1 => eq_ v1 2
      (bd_ (f_X2_isWhite μ a1) (fun v10 => eq_ v10 0
      (some 0)
      (nm_ (μ 0 10) (fun v18 => lt_ a1 v18
      (some 0)
      (some 1)))))
      (some 0))
set_option maxHeartbeats 4000000 in
set_option maxRecDepth 100000 in
theorem c_X2_isToBeSwept {G : gp_} {ad : Nat → Nat} (μ : mu_T) (a1 : Int) (a : Int) (h : f_X2_isToBeSwept μ a1 = some a) : mi_ yX2_isToBeSwept cX2_isToBeSwept 2 (some .boolean) ({ frames := 1, cells := 0, slots := 0, locals := 21 } : Room) G 151 ad (ceX G ad) [.ref (ad 0), .int (iI a1)] μ a μ := by
  refine mi_in (own := "UrnHeap$Heap") (lv := [(0, .ref (ad 0)), (1, .int (iI a1))]) (by decide) rfl rfl (Nat.le_of_ble_eq_true rfl) (fun X C E => ?_)
  unfold f_X2_isToBeSwept at h
  refine xx_aload_n C 1 rfl 0 dX2_isToBeSwept_0 rfl rfl ?_
  refine xx_geti (fi := 9) (j := 9) C 4 rfl (by decide) (ceX_0 _ _ _) rfl in_X2 (by decide) rfl rfl w_169 dX2_isToBeSwept_1 h (fun v1 h => ?_)
  refine xx_iconst C 5 rfl dX2_isToBeSwept_4 ?_
  refine xx_icmp_ne (tgt := 28) C 8 rfl dX2_isToBeSwept_5 (by decide) h (fun h => ?_) (fun h => ?_)
  · refine xx_iconst C 29 rfl dX2_isToBeSwept_28 ?_
    exact xx_zretl C E rfl rfl ⟨Nat.le_of_ble_eq_true rfl, Nat.le_of_ble_eq_true rfl⟩ dX2_isToBeSwept_29 h
  · refine xx_aload_n C 9 rfl 0 dX2_isToBeSwept_8 rfl rfl ?_
    refine xx_iload_n C 10 rfl 1 dX2_isToBeSwept_9 rfl rfl ?_
    refine xx_cVip (As := [.int (iI a1)]) (st := []) (o := 0) C 13 rfl (by decide) (ceX_0 _ _ _) rfl rfl ca_X2_isWhite cv_X2_isWhite w_482 rfl ⟨Nat.le_of_ble_eq_true rfl, Nat.le_of_ble_eq_true rfl⟩ ⟨Nat.le_of_ble_eq_true rfl, Nat.le_of_ble_eq_true rfl⟩ (Nat.le_of_ble_eq_true rfl) dX2_isToBeSwept_10 (fun v10 e9 => c_X2_isWhite _ _ v10 e9) h (fun v10 h => ?_) rfl
    refine xx_if_eq (tgt := 28) C 16 rfl dX2_isToBeSwept_13 (by decide) h (fun h => ?_) (fun h => ?_)
    · refine xx_iconst C 29 rfl dX2_isToBeSwept_28 ?_
      exact xx_zretl C E rfl rfl ⟨Nat.le_of_ble_eq_true rfl, Nat.le_of_ble_eq_true rfl⟩ dX2_isToBeSwept_29 h
    · refine xx_iload_n C 17 rfl 1 dX2_isToBeSwept_16 rfl rfl ?_
      refine xx_aload_n C 18 rfl 0 dX2_isToBeSwept_17 rfl rfl ?_
      refine xx_geti (fi := 10) (j := 10) C 21 rfl (by decide) (ceX_0 _ _ _) rfl in_X2 (by decide) rfl rfl w_173 dX2_isToBeSwept_18 h (fun v18 h => ?_)
      refine xx_icmp_lt (tgt := 28) C 24 rfl dX2_isToBeSwept_21 (by decide) h (fun h => ?_) (fun h => ?_)
      · refine xx_iconst C 29 rfl dX2_isToBeSwept_28 ?_
        exact xx_zretl C E rfl rfl ⟨Nat.le_of_ble_eq_true rfl, Nat.le_of_ble_eq_true rfl⟩ dX2_isToBeSwept_29 h
      · refine xx_iconst C 25 rfl dX2_isToBeSwept_24 ?_
        refine xx_goto C 29 dX2_isToBeSwept_25 (by decide) ?_
        exact xx_zretl C E rfl rfl ⟨Nat.le_of_ble_eq_true rfl, Nat.le_of_ble_eq_true rfl⟩ dX2_isToBeSwept_29 h

def f_X11_isCell (μ : mu_T) (a0 : Int) : Option Int :=
  lt_ a0 0
      (some 0)
      (lt_ a0 24
      (some 1)
      (some 0))
set_option maxHeartbeats 4000000 in
set_option maxRecDepth 100000 in
theorem c_X11_isCell {G : gp_} {ad : Nat → Nat} (μ : mu_T) (a0 : Int) (a : Int) (h : f_X11_isCell μ a0 = some a) : mi_ yX11_isCell cX11_isCell 1 (some .boolean) ({ frames := 0, cells := 0, slots := 0, locals := 0 } : Room) G 151 ad (ceX G ad) [.int (iI a0)] μ a μ := by
  refine mi_in (own := "UrnHeap") (lv := [(0, .int (iI a0))]) (by decide) rfl rfl (Nat.le_of_ble_eq_true rfl) (fun X C E => ?_)
  unfold f_X11_isCell at h
  refine xx_iload_n C 1 rfl 0 dX11_isCell_0 rfl rfl ?_
  refine xx_if_lt (tgt := 14) C 4 rfl dX11_isCell_1 (by decide) h (fun h => ?_) (fun h => ?_)
  · refine xx_iconst C 15 rfl dX11_isCell_14 ?_
    exact xx_zretl C E rfl rfl ⟨Nat.le_of_ble_eq_true rfl, Nat.le_of_ble_eq_true rfl⟩ dX11_isCell_15 h
  · refine xx_iload_n C 5 rfl 0 dX11_isCell_4 rfl rfl ?_
    refine xx_bipush C 7 rfl dX11_isCell_5 (by decide) ?_
    refine xx_icmp_ge (tgt := 14) C 10 rfl dX11_isCell_7 (by decide) h (fun h => ?_) (fun h => ?_)
    · refine xx_iconst C 15 rfl dX11_isCell_14 ?_
      exact xx_zretl C E rfl rfl ⟨Nat.le_of_ble_eq_true rfl, Nat.le_of_ble_eq_true rfl⟩ dX11_isCell_15 h
    · refine xx_iconst C 11 rfl dX11_isCell_10 ?_
      refine xx_goto C 15 dX11_isCell_11 (by decide) ?_
      exact xx_zretl C E rfl rfl ⟨Nat.le_of_ble_eq_true rfl, Nat.le_of_ble_eq_true rfl⟩ dX11_isCell_15 h

def f_X2_target (μ : mu_T) (a1 : Int) (a2 : Int) : Option Int :=
  bd_ (f_X11_isCell μ a1) (fun v1 => eq_ v1 0
      (some (-15))
      (bd_ (f_X11_isSlot μ a2) (fun v8 => eq_ v8 0
      (some (-15))
      (rd_ μ 1 96 ((a1 * 4) + a2) (fun v23 => some v23)))))
set_option maxHeartbeats 4000000 in
set_option maxRecDepth 100000 in
theorem c_X2_target {G : gp_} {ad : Nat → Nat} (μ : mu_T) (a1 : Int) (a2 : Int) (a : Int) (h : f_X2_target μ a1 a2 = some a) : mi_ yX2_target cX2_target 3 (some .int) ({ frames := 1, cells := 0, slots := 0, locals := 20 } : Room) G 151 ad (ceX G ad) [.ref (ad 0), .int (iI a1), .int (iI a2)] μ a μ := by
  refine mi_in (own := "UrnHeap$Heap") (lv := [(0, .ref (ad 0)), (1, .int (iI a1)), (2, .int (iI a2))]) (by decide) rfl rfl (Nat.le_of_ble_eq_true rfl) (fun X C E => ?_)
  unfold f_X2_target at h
  refine xx_iload_n C 1 rfl 1 dX2_target_0 rfl rfl ?_
  refine xx_cNip (As := [.int (iI a1)]) (st := []) C 4 rfl  ca_X11_isCell cs_X11_isCell 5 rfl rfl ⟨Nat.le_of_ble_eq_true rfl, Nat.le_of_ble_eq_true rfl⟩ ⟨Nat.le_of_ble_eq_true rfl, Nat.le_of_ble_eq_true rfl⟩ (Nat.le_of_ble_eq_true rfl) dX2_target_1 (fun v1 e9 => c_X11_isCell _ _ v1 e9) h (fun v1 h => ?_) rfl
  refine xx_if_eq (tgt := 27) C 7 rfl dX2_target_4 (by decide) h (fun h => ?_) (fun h => ?_)
  · refine xx_bipush C 29 rfl dX2_target_27 (by decide) ?_
    exact xx_iretp C E rfl ⟨Nat.le_of_ble_eq_true rfl, Nat.le_of_ble_eq_true rfl⟩ dX2_target_29 h
  · refine xx_iload_n C 8 rfl 2 dX2_target_7 rfl rfl ?_
    refine xx_cNip (As := [.int (iI a2)]) (st := []) C 11 rfl  ca_X11_isSlot cs_X11_isSlot 6 rfl rfl ⟨Nat.le_of_ble_eq_true rfl, Nat.le_of_ble_eq_true rfl⟩ ⟨Nat.le_of_ble_eq_true rfl, Nat.le_of_ble_eq_true rfl⟩ (Nat.le_of_ble_eq_true rfl) dX2_target_8 (fun v8 e9 => c_X11_isSlot _ _ v8 e9) h (fun v8 h => ?_) rfl
    refine xx_if_eq (tgt := 27) C 14 rfl dX2_target_11 (by decide) h (fun h => ?_) (fun h => ?_)
    · refine xx_bipush C 29 rfl dX2_target_27 (by decide) ?_
      exact xx_iretp C E rfl ⟨Nat.le_of_ble_eq_true rfl, Nat.le_of_ble_eq_true rfl⟩ dX2_target_29 h
    · refine xx_aload_n C 15 rfl 0 dX2_target_14 rfl rfl ?_
      refine xx_getr (fi := 0) C 18 rfl (by decide) (ceX_0 _ _ _) rfl in_X2 (by decide) rfl rfl w_135 dX2_target_15 ?_
      refine xx_iload_n C 19 rfl 1 dX2_target_18 rfl rfl ?_
      refine xx_iconst C 20 rfl dX2_target_19 ?_
      refine xx_imul C 21 rfl dX2_target_20 ?_
      refine xx_iload_n C 22 rfl 2 dX2_target_21 rfl rfl ?_
      refine xx_iadd C 23 rfl dX2_target_22 ?_
      refine xx_iaload C 24 rfl (by decide) (fun row => ceX_1 _ _ row) (by decide) dX2_target_23 h (fun v23 h => ?_)
      refine xx_goto C 29 dX2_target_24 (by decide) ?_
      exact xx_iretp C E rfl ⟨Nat.le_of_ble_eq_true rfl, Nat.le_of_ble_eq_true rfl⟩ dX2_target_29 h

def f_X9_addLast (μ : mu_T) (a1 : Int) : Option mu_T :=
  nm_ (μ 8 1) (fun v1 => lt_ v1 24
      (nm_ (μ 8 1) (fun v17 => wr_ μ 9 24 v17 a1 (fun μ21 => nm_ (μ21 8 1) (fun v24 => wf_ μ21 8 1 (v24 + 1) (fun μ29 => some μ29)))))
      (some μ))
set_option maxHeartbeats 4000000 in
set_option maxRecDepth 100000 in
theorem c_X9_addLast {G : gp_} {ad : Nat → Nat} (μ : mu_T) (a1 : Int) (μr : mu_T) (h : f_X9_addLast μ a1 = some μr) : mv_ yX9_addLast cX9_addLast 2 ({ frames := 0, cells := 0, slots := 0, locals := 0 } : Room) G 151 ad (ceX G ad) [.ref (ad 8), .int (iI a1)] μ μr := by
  refine mv_in (own := "UrnHeap$Row") (lv := [(0, .ref (ad 8)), (1, .int (iI a1))]) (by decide) rfl rfl (Nat.le_of_ble_eq_true rfl) (fun X C E => ?_)
  unfold f_X9_addLast at h
  refine xx_aload_n C 1 rfl 0 dX9_addLast_0 rfl rfl ?_
  refine xx_geti (fi := 1) (j := 1) C 4 rfl (by decide) (ceX_8 _ _ _) rfl in_X9 (by decide) rfl rfl w_123 dX9_addLast_1 h (fun v1 h => ?_)
  refine xx_aload_n C 5 rfl 0 dX9_addLast_4 rfl rfl ?_
  refine xx_getr (fi := 0) C 8 rfl (by decide) (ceX_8 _ _ _) rfl in_X9 (by decide) rfl rfl w_122 dX9_addLast_5 ?_
  refine xx_alen (nA := 24) C 9 rfl (by decide) (fun row => ceX_9 _ _ row) dX9_addLast_8 ?_
  refine xx_icmp_ge (tgt := 32) C 12 rfl dX9_addLast_9 (by decide) h (fun h => ?_) (fun h => ?_)
  · exact xx_vret C E rfl ⟨Nat.le_of_ble_eq_true rfl, Nat.le_of_ble_eq_true rfl⟩ dX9_addLast_32 h
  · refine xx_aload_n C 13 rfl 0 dX9_addLast_12 rfl rfl ?_
    refine xx_getr (fi := 0) C 16 rfl (by decide) (ceX_8 _ _ _) rfl in_X9 (by decide) rfl rfl w_122 dX9_addLast_13 ?_
    refine xx_aload_n C 17 rfl 0 dX9_addLast_16 rfl rfl ?_
    refine xx_geti (fi := 1) (j := 1) C 20 rfl (by decide) (ceX_8 _ _ _) rfl in_X9 (by decide) rfl rfl w_123 dX9_addLast_17 h (fun v17 h => ?_)
    refine xx_iload_n C 21 rfl 1 dX9_addLast_20 rfl rfl ?_
    refine xx_iastore C 22 rfl (by decide) (fun row => ceX_9 _ _ row) (by decide) dX9_addLast_21 h (fun μ21 h => ?_)
    refine xx_aload_n C 23 rfl 0 dX9_addLast_22 rfl rfl ?_
    refine xx_dup C 24 rfl dX9_addLast_23 rfl ?_
    refine xx_geti (fi := 1) (j := 1) C 27 rfl (by decide) (ceX_8 _ _ _) rfl in_X9 (by decide) rfl rfl w_123 dX9_addLast_24 h (fun v24 h => ?_)
    refine xx_iconst C 28 rfl dX9_addLast_27 ?_
    refine xx_iadd C 29 rfl dX9_addLast_28 ?_
    refine xx_puti (fi := 1) (j := 1) C 32 rfl (by decide) (ceX_8 _ _ _) (puX_8_1 _ _ _ _) rfl in_X9 tyX9 tyX9_ok nmX9 (by decide) (Nat.le_of_ble_eq_true rfl) ⟨rfl, rfl, rfl⟩ w_123 dX9_addLast_29 h (fun μ29 h => ?_)
    exact xx_vret C E rfl ⟨Nat.le_of_ble_eq_true rfl, Nat.le_of_ble_eq_true rfl⟩ dX9_addLast_32 h

def f_X2_makeGrey (μ : mu_T) (a1 : Int) : Option mu_T :=
  bd_ (f_X2_isWhite μ a1) (fun v2 => eq_ v2 0
      (some μ)
      (wr_ μ 4 24 a1 1 (fun μ14 => bd_ (f_X9_addLast μ14 a1) (fun μ20 => some μ20))))
set_option maxHeartbeats 4000000 in
set_option maxRecDepth 100000 in
theorem c_X2_makeGrey {G : gp_} {ad : Nat → Nat} (μ : mu_T) (a1 : Int) (μr : mu_T) (h : f_X2_makeGrey μ a1 = some μr) : mv_ yX2_makeGrey cX2_makeGrey 2 ({ frames := 1, cells := 0, slots := 0, locals := 21 } : Room) G 151 ad (ceX G ad) [.ref (ad 0), .int (iI a1)] μ μr := by
  refine mv_in (own := "UrnHeap$Heap") (lv := [(0, .ref (ad 0)), (1, .int (iI a1))]) (by decide) rfl rfl (Nat.le_of_ble_eq_true rfl) (fun X C E => ?_)
  unfold f_X2_makeGrey at h
  refine xx_aload_n C 1 rfl 0 dX2_makeGrey_0 rfl rfl ?_
  refine xx_iload_n C 2 rfl 1 dX2_makeGrey_1 rfl rfl ?_
  refine xx_cVip (As := [.int (iI a1)]) (st := []) (o := 0) C 5 rfl (by decide) (ceX_0 _ _ _) rfl rfl ca_X2_isWhite cv_X2_isWhite w_482 rfl ⟨Nat.le_of_ble_eq_true rfl, Nat.le_of_ble_eq_true rfl⟩ ⟨Nat.le_of_ble_eq_true rfl, Nat.le_of_ble_eq_true rfl⟩ (Nat.le_of_ble_eq_true rfl) dX2_makeGrey_2 (fun v2 e9 => c_X2_isWhite _ _ v2 e9) h (fun v2 h => ?_) rfl
  refine xx_if_eq (tgt := 23) C 8 rfl dX2_makeGrey_5 (by decide) h (fun h => ?_) (fun h => ?_)
  · exact xx_vret C E rfl ⟨Nat.le_of_ble_eq_true rfl, Nat.le_of_ble_eq_true rfl⟩ dX2_makeGrey_23 h
  · refine xx_aload_n C 9 rfl 0 dX2_makeGrey_8 rfl rfl ?_
    refine xx_getr (fi := 3) C 12 rfl (by decide) (ceX_0 _ _ _) rfl in_X2 (by decide) rfl rfl w_149 dX2_makeGrey_9 ?_
    refine xx_iload_n C 13 rfl 1 dX2_makeGrey_12 rfl rfl ?_
    refine xx_iconst C 14 rfl dX2_makeGrey_13 ?_
    refine xx_iastore C 15 rfl (by decide) (fun row => ceX_4 _ _ row) (by decide) dX2_makeGrey_14 h (fun μ14 h => ?_)
    refine xx_aload_n C 16 rfl 0 dX2_makeGrey_15 rfl rfl ?_
    refine xx_getr (fi := 7) C 19 rfl (by decide) (ceX_0 _ _ _) rfl in_X2 (by decide) rfl rfl w_163 dX2_makeGrey_16 ?_
    refine xx_iload_n C 20 rfl 1 dX2_makeGrey_19 rfl rfl ?_
    refine xx_cVv (As := [.int (iI a1)]) (st := []) (o := 8) C 23 rfl (by decide) (ceX_8 _ _ _) rfl rfl ca_X9_addLast cv_X9_addLast w_502 rfl ⟨Nat.le_of_ble_eq_true rfl, Nat.le_of_ble_eq_true rfl⟩ ⟨Nat.le_of_ble_eq_true rfl, Nat.le_of_ble_eq_true rfl⟩ (Nat.le_of_ble_eq_true rfl) dX2_makeGrey_20 (fun μ20 e9 => c_X9_addLast _ _ μ20 e9) h (fun μ20 h => ?_) rfl
    exact xx_vret C E rfl ⟨Nat.le_of_ble_eq_true rfl, Nat.le_of_ble_eq_true rfl⟩ dX2_makeGrey_23 h

def f_X2_makeGreyInRound (μ : mu_T) (a1 : Int) : Option mu_T :=
  nm_ (μ 0 9) (fun v1 => eq_ v1 1
      (bd_ (f_X2_makeGrey μ a1) (fun μ10 => some μ10))
      (some μ))
set_option maxHeartbeats 4000000 in
set_option maxRecDepth 100000 in
theorem c_X2_makeGreyInRound {G : gp_} {ad : Nat → Nat} (μ : mu_T) (a1 : Int) (μr : mu_T) (h : f_X2_makeGreyInRound μ a1 = some μr) : mv_ yX2_makeGreyInRound cX2_makeGreyInRound 2 ({ frames := 2, cells := 0, slots := 0, locals := 42 } : Room) G 151 ad (ceX G ad) [.ref (ad 0), .int (iI a1)] μ μr := by
  refine mv_in (own := "UrnHeap$Heap") (lv := [(0, .ref (ad 0)), (1, .int (iI a1))]) (by decide) rfl rfl (Nat.le_of_ble_eq_true rfl) (fun X C E => ?_)
  unfold f_X2_makeGreyInRound at h
  refine xx_aload_n C 1 rfl 0 dX2_makeGreyInRound_0 rfl rfl ?_
  refine xx_geti (fi := 9) (j := 9) C 4 rfl (by decide) (ceX_0 _ _ _) rfl in_X2 (by decide) rfl rfl w_169 dX2_makeGreyInRound_1 h (fun v1 h => ?_)
  refine xx_iconst C 5 rfl dX2_makeGreyInRound_4 ?_
  refine xx_icmp_ne (tgt := 13) C 8 rfl dX2_makeGreyInRound_5 (by decide) h (fun h => ?_) (fun h => ?_)
  · exact xx_vret C E rfl ⟨Nat.le_of_ble_eq_true rfl, Nat.le_of_ble_eq_true rfl⟩ dX2_makeGreyInRound_13 h
  · refine xx_aload_n C 9 rfl 0 dX2_makeGreyInRound_8 rfl rfl ?_
    refine xx_iload_n C 10 rfl 1 dX2_makeGreyInRound_9 rfl rfl ?_
    refine xx_cVv (As := [.int (iI a1)]) (st := []) (o := 0) C 13 rfl (by decide) (ceX_0 _ _ _) rfl rfl ca_X2_makeGrey cv_X2_makeGrey w_498 rfl ⟨Nat.le_of_ble_eq_true rfl, Nat.le_of_ble_eq_true rfl⟩ ⟨Nat.le_of_ble_eq_true rfl, Nat.le_of_ble_eq_true rfl⟩ (Nat.le_of_ble_eq_true rfl) dX2_makeGreyInRound_10 (fun μ10 e9 => c_X2_makeGrey _ _ μ10 e9) h (fun μ10 h => ?_) rfl
    exact xx_vret C E rfl ⟨Nat.le_of_ble_eq_true rfl, Nat.le_of_ble_eq_true rfl⟩ dX2_makeGreyInRound_13 h

def f_X1_tieThread (μ : mu_T) (a1 : Int) (a2 : Int) (a3 : Int) : Option (Int × mu_T) :=
  bd_ (f_X2_hasUrn μ a1) (fun v5 => eq_ v5 0
      (some ((-11), μ))
      (bd_ (f_X11_isSlot μ a2) (fun v12 => eq_ v12 0
      (some ((-11), μ))
      (bd_ (f_X2_hasUrn μ a3) (fun v23 => eq_ v23 0
      (some ((-11), μ))
      (bd_ (f_X2_isToBeSwept μ a1) (fun v37 => eq_ v37 0
      (bd_ (f_X2_isToBeSwept μ a3) (fun v59 => eq_ v59 0
      (bd_ (f_X2_target μ a1 a2) (fun v82 => wr_ μ 1 96 ((a1 * 4) + a2) a3 (fun μ100 => rd_ μ100 4 24 a1 (fun v109 => eq_ v109 2
      (bd_ (f_X2_makeGreyInRound μ100 a3) (fun μ119 => some (v82, μ119)))
      (some (v82, μ100))))))
      (bp_ (f_X8_refuse μ 7 a3) (fun v72 μ72 => some (v72, μ72)))))
      (bp_ (f_X8_refuse μ 7 a1) (fun v50 μ50 => some (v50, μ50))))))))))
set_option maxHeartbeats 4000000 in
set_option maxRecDepth 100000 in
theorem c_X1_tieThread {G : gp_} {ad : Nat → Nat} (μ : mu_T) (a1 : Int) (a2 : Int) (a3 : Int) (a : Int) (μr : mu_T) (h : f_X1_tieThread μ a1 a2 a3 = some (a, μr)) : mi_ yX1_tieThread cX1_tieThread 5 (some .int) ({ frames := 3, cells := 0, slots := 0, locals := 63 } : Room) G 151 ad (ceX G ad) [.ref (ad 134), .int (iI a1), .int (iI a2), .int (iI a3)] μ a μr := by
  refine mi_in (own := "UrnHeap$Hands") (lv := [(0, .ref (ad 134)), (1, .int (iI a1)), (2, .int (iI a2)), (3, .int (iI a3))]) (by decide) rfl rfl (Nat.le_of_ble_eq_true rfl) (fun X C E => ?_)
  unfold f_X1_tieThread at h
  refine xx_aload_n C 1 rfl 0 dX1_tieThread_0 rfl rfl ?_
  refine xx_getr (fi := 0) C 4 rfl (by decide) (ceX_134 _ _ _) rfl in_X1 (by decide) rfl rfl w_252 dX1_tieThread_1 ?_
  refine xx_iload_n C 5 rfl 1 dX1_tieThread_4 rfl rfl ?_
  refine xx_cVip (As := [.int (iI a1)]) (st := []) (o := 0) C 8 rfl (by decide) (ceX_0 _ _ _) rfl rfl ca_X2_hasUrn cv_X2_hasUrn w_445 rfl ⟨Nat.le_of_ble_eq_true rfl, Nat.le_of_ble_eq_true rfl⟩ ⟨Nat.le_of_ble_eq_true rfl, Nat.le_of_ble_eq_true rfl⟩ (Nat.le_of_ble_eq_true rfl) dX1_tieThread_5 (fun v5 e9 => c_X2_hasUrn _ _ v5 e9) h (fun v5 h => ?_) rfl
  refine xx_if_eq (tgt := 29) C 11 rfl dX1_tieThread_8 (by decide) h (fun h => ?_) (fun h => ?_)
  · refine xx_bipush C 31 rfl dX1_tieThread_29 (by decide) ?_
    exact xx_iret C E rfl ⟨Nat.le_of_ble_eq_true rfl, Nat.le_of_ble_eq_true rfl⟩ dX1_tieThread_31 h
  · refine xx_iload_n C 12 rfl 2 dX1_tieThread_11 rfl rfl ?_
    refine xx_cNip (As := [.int (iI a2)]) (st := []) C 15 rfl  ca_X11_isSlot cs_X11_isSlot 4 rfl rfl ⟨Nat.le_of_ble_eq_true rfl, Nat.le_of_ble_eq_true rfl⟩ ⟨Nat.le_of_ble_eq_true rfl, Nat.le_of_ble_eq_true rfl⟩ (Nat.le_of_ble_eq_true rfl) dX1_tieThread_12 (fun v12 e9 => c_X11_isSlot _ _ v12 e9) h (fun v12 h => ?_) rfl
    refine xx_if_eq (tgt := 29) C 18 rfl dX1_tieThread_15 (by decide) h (fun h => ?_) (fun h => ?_)
    · refine xx_bipush C 31 rfl dX1_tieThread_29 (by decide) ?_
      exact xx_iret C E rfl ⟨Nat.le_of_ble_eq_true rfl, Nat.le_of_ble_eq_true rfl⟩ dX1_tieThread_31 h
    · refine xx_aload_n C 19 rfl 0 dX1_tieThread_18 rfl rfl ?_
      refine xx_getr (fi := 0) C 22 rfl (by decide) (ceX_134 _ _ _) rfl in_X1 (by decide) rfl rfl w_252 dX1_tieThread_19 ?_
      refine xx_iload_n C 23 rfl 3 dX1_tieThread_22 rfl rfl ?_
      refine xx_cVip (As := [.int (iI a3)]) (st := []) (o := 0) C 26 rfl (by decide) (ceX_0 _ _ _) rfl rfl ca_X2_hasUrn cv_X2_hasUrn w_445 rfl ⟨Nat.le_of_ble_eq_true rfl, Nat.le_of_ble_eq_true rfl⟩ ⟨Nat.le_of_ble_eq_true rfl, Nat.le_of_ble_eq_true rfl⟩ (Nat.le_of_ble_eq_true rfl) dX1_tieThread_23 (fun v23 e9 => c_X2_hasUrn _ _ v23 e9) h (fun v23 h => ?_) rfl
      refine xx_if_ne (tgt := 32) C 29 rfl dX1_tieThread_26 (by decide) h (fun h => ?_) (fun h => ?_)
      · refine xx_aload_n C 33 rfl 0 dX1_tieThread_32 rfl rfl ?_
        refine xx_getr (fi := 0) C 36 rfl (by decide) (ceX_134 _ _ _) rfl in_X1 (by decide) rfl rfl w_252 dX1_tieThread_33 ?_
        refine xx_iload_n C 37 rfl 1 dX1_tieThread_36 rfl rfl ?_
        refine xx_cVip (As := [.int (iI a1)]) (st := []) (o := 0) C 40 rfl (by decide) (ceX_0 _ _ _) rfl rfl ca_X2_isToBeSwept cv_X2_isToBeSwept w_478 rfl ⟨Nat.le_of_ble_eq_true rfl, Nat.le_of_ble_eq_true rfl⟩ ⟨Nat.le_of_ble_eq_true rfl, Nat.le_of_ble_eq_true rfl⟩ (Nat.le_of_ble_eq_true rfl) dX1_tieThread_37 (fun v37 e9 => c_X2_isToBeSwept _ _ v37 e9) h (fun v37 h => ?_) rfl
        refine xx_if_eq (tgt := 54) C 43 rfl dX1_tieThread_40 (by decide) h (fun h => ?_) (fun h => ?_)
        · refine xx_aload_n C 55 rfl 0 dX1_tieThread_54 rfl rfl ?_
          refine xx_getr (fi := 0) C 58 rfl (by decide) (ceX_134 _ _ _) rfl in_X1 (by decide) rfl rfl w_252 dX1_tieThread_55 ?_
          refine xx_iload_n C 59 rfl 3 dX1_tieThread_58 rfl rfl ?_
          refine xx_cVip (As := [.int (iI a3)]) (st := []) (o := 0) C 62 rfl (by decide) (ceX_0 _ _ _) rfl rfl ca_X2_isToBeSwept cv_X2_isToBeSwept w_478 rfl ⟨Nat.le_of_ble_eq_true rfl, Nat.le_of_ble_eq_true rfl⟩ ⟨Nat.le_of_ble_eq_true rfl, Nat.le_of_ble_eq_true rfl⟩ (Nat.le_of_ble_eq_true rfl) dX1_tieThread_59 (fun v59 e9 => c_X2_isToBeSwept _ _ v59 e9) h (fun v59 h => ?_) rfl
          refine xx_if_eq (tgt := 76) C 65 rfl dX1_tieThread_62 (by decide) h (fun h => ?_) (fun h => ?_)
          · refine xx_aload_n C 77 rfl 0 dX1_tieThread_76 rfl rfl ?_
            refine xx_getr (fi := 0) C 80 rfl (by decide) (ceX_134 _ _ _) rfl in_X1 (by decide) rfl rfl w_252 dX1_tieThread_77 ?_
            refine xx_iload_n C 81 rfl 1 dX1_tieThread_80 rfl rfl ?_
            refine xx_iload_n C 82 rfl 2 dX1_tieThread_81 rfl rfl ?_
            refine xx_cVip (As := [.int (iI a1), .int (iI a2)]) (st := []) (o := 0) C 85 rfl (by decide) (ceX_0 _ _ _) rfl rfl ca_X2_target cv_X2_target w_486 rfl ⟨Nat.le_of_ble_eq_true rfl, Nat.le_of_ble_eq_true rfl⟩ ⟨Nat.le_of_ble_eq_true rfl, Nat.le_of_ble_eq_true rfl⟩ (Nat.le_of_ble_eq_true rfl) dX1_tieThread_82 (fun v82 e9 => c_X2_target _ _ _ v82 e9) h (fun v82 h => ?_) rfl
            refine xx_istore (lv1 := [(4, .int (iI v82)), (0, .ref (ad 134)), (1, .int (iI a1)), (2, .int (iI a2)), (3, .int (iI a3))]) C 87 rfl (by decide) dX1_tieThread_85 rfl ?_
            refine xx_aload_n C 88 rfl 1 dX1_tieThread_87 rfl rfl ?_
            refine xx_getr (fi := 0) C 91 rfl (by decide) (ceX_134 _ _ _) rfl in_X1 (by decide) rfl rfl w_252 dX1_tieThread_88 ?_
            refine xx_getr (fi := 0) C 94 rfl (by decide) (ceX_0 _ _ _) rfl in_X2 (by decide) rfl rfl w_136 dX1_tieThread_91 ?_
            refine xx_iload_n C 95 rfl 2 dX1_tieThread_94 rfl rfl ?_
            refine xx_iconst C 96 rfl dX1_tieThread_95 ?_
            refine xx_imul C 97 rfl dX1_tieThread_96 ?_
            refine xx_iload_n C 98 rfl 3 dX1_tieThread_97 rfl rfl ?_
            refine xx_iadd C 99 rfl dX1_tieThread_98 ?_
            refine xx_iload_n C 100 rfl 4 dX1_tieThread_99 rfl rfl ?_
            refine xx_iastore C 101 rfl (by decide) (fun row => ceX_1 _ _ row) (by decide) dX1_tieThread_100 h (fun μ100 h => ?_)
            refine xx_aload_n C 102 rfl 1 dX1_tieThread_101 rfl rfl ?_
            refine xx_getr (fi := 0) C 105 rfl (by decide) (ceX_134 _ _ _) rfl in_X1 (by decide) rfl rfl w_252 dX1_tieThread_102 ?_
            refine xx_getr (fi := 3) C 108 rfl (by decide) (ceX_0 _ _ _) rfl in_X2 (by decide) rfl rfl w_150 dX1_tieThread_105 ?_
            refine xx_iload_n C 109 rfl 2 dX1_tieThread_108 rfl rfl ?_
            refine xx_iaload C 110 rfl (by decide) (fun row => ceX_4 _ _ row) (by decide) dX1_tieThread_109 h (fun v109 h => ?_)
            refine xx_iconst C 111 rfl dX1_tieThread_110 ?_
            refine xx_icmp_ne (tgt := 122) C 114 rfl dX1_tieThread_111 (by decide) h (fun h => ?_) (fun h => ?_)
            · refine xx_iload C 124 rfl 0 dX1_tieThread_122 rfl ?_
              exact xx_iret C E rfl ⟨Nat.le_of_ble_eq_true rfl, Nat.le_of_ble_eq_true rfl⟩ dX1_tieThread_124 h
            · refine xx_aload_n C 115 rfl 1 dX1_tieThread_114 rfl rfl ?_
              refine xx_getr (fi := 0) C 118 rfl (by decide) (ceX_134 _ _ _) rfl in_X1 (by decide) rfl rfl w_252 dX1_tieThread_115 ?_
              refine xx_iload_n C 119 rfl 4 dX1_tieThread_118 rfl rfl ?_
              refine xx_cVv (As := [.int (iI a3)]) (st := []) (o := 0) C 122 rfl (by decide) (ceX_0 _ _ _) rfl rfl ca_X2_makeGreyInRound cv_X2_makeGreyInRound w_494 rfl ⟨Nat.le_of_ble_eq_true rfl, Nat.le_of_ble_eq_true rfl⟩ ⟨Nat.le_of_ble_eq_true rfl, Nat.le_of_ble_eq_true rfl⟩ (Nat.le_of_ble_eq_true rfl) dX1_tieThread_119 (fun μ119 e9 => c_X2_makeGreyInRound _ _ μ119 e9) h (fun μ119 h => ?_) rfl
              refine xx_iload C 124 rfl 0 dX1_tieThread_122 rfl ?_
              exact xx_iret C E rfl ⟨Nat.le_of_ble_eq_true rfl, Nat.le_of_ble_eq_true rfl⟩ dX1_tieThread_124 h
          · refine xx_aload_n C 66 rfl 0 dX1_tieThread_65 rfl rfl ?_
            refine xx_getr (fi := 1) C 69 rfl (by decide) (ceX_134 _ _ _) rfl in_X1 (by decide) rfl rfl w_253 dX1_tieThread_66 ?_
            refine xx_bipush C 71 rfl dX1_tieThread_69 (by decide) ?_
            refine xx_iload_n C 72 rfl 3 dX1_tieThread_71 rfl rfl ?_
            refine xx_cVi (As := [.int (iI 7), .int (iI a3)]) (st := []) (o := 133) C 75 rfl (by decide) (ceX_133 _ _ _) rfl rfl ca_X8_refuse cv_X8_refuse w_453 rfl ⟨Nat.le_of_ble_eq_true rfl, Nat.le_of_ble_eq_true rfl⟩ ⟨Nat.le_of_ble_eq_true rfl, Nat.le_of_ble_eq_true rfl⟩ (Nat.le_of_ble_eq_true rfl) dX1_tieThread_72 (fun v72 μ72 e9 => c_X8_refuse _ _ _ v72 μ72 e9) h (fun v72 μ72 h => ?_) rfl
            exact xx_iret C E rfl ⟨Nat.le_of_ble_eq_true rfl, Nat.le_of_ble_eq_true rfl⟩ dX1_tieThread_75 h
        · refine xx_aload_n C 44 rfl 0 dX1_tieThread_43 rfl rfl ?_
          refine xx_getr (fi := 1) C 47 rfl (by decide) (ceX_134 _ _ _) rfl in_X1 (by decide) rfl rfl w_253 dX1_tieThread_44 ?_
          refine xx_bipush C 49 rfl dX1_tieThread_47 (by decide) ?_
          refine xx_iload_n C 50 rfl 1 dX1_tieThread_49 rfl rfl ?_
          refine xx_cVi (As := [.int (iI 7), .int (iI a1)]) (st := []) (o := 133) C 53 rfl (by decide) (ceX_133 _ _ _) rfl rfl ca_X8_refuse cv_X8_refuse w_453 rfl ⟨Nat.le_of_ble_eq_true rfl, Nat.le_of_ble_eq_true rfl⟩ ⟨Nat.le_of_ble_eq_true rfl, Nat.le_of_ble_eq_true rfl⟩ (Nat.le_of_ble_eq_true rfl) dX1_tieThread_50 (fun v50 μ50 e9 => c_X8_refuse _ _ _ v50 μ50 e9) h (fun v50 μ50 h => ?_) rfl
          exact xx_iret C E rfl ⟨Nat.le_of_ble_eq_true rfl, Nat.le_of_ble_eq_true rfl⟩ dX1_tieThread_53 h
      · refine xx_bipush C 31 rfl dX1_tieThread_29 (by decide) ?_
        exact xx_iret C E rfl ⟨Nat.le_of_ble_eq_true rfl, Nat.le_of_ble_eq_true rfl⟩ dX1_tieThread_31 h

def f_X1_takeThread (μ : mu_T) (a1 : Int) (a2 : Int) : Option (Int × mu_T) :=
  bd_ (f_X2_hasUrn μ a1) (fun v5 => eq_ v5 0
      (some ((-11), μ))
      (bd_ (f_X11_isSlot μ a2) (fun v12 => eq_ v12 0
      (some ((-11), μ))
      (bd_ (f_X2_target μ a1 a2) (fun v27 => eq_ v27 (-15)
      (bp_ (f_X8_refuse μ 2 a2) (fun v43 μ43 => some (v43, μ43)))
      (wr_ μ 1 96 ((a1 * 4) + a2) (-15) (fun μ61 => some (v27, μ61))))))))
set_option maxHeartbeats 4000000 in
set_option maxRecDepth 100000 in
theorem c_X1_takeThread {G : gp_} {ad : Nat → Nat} (μ : mu_T) (a1 : Int) (a2 : Int) (a : Int) (μr : mu_T) (h : f_X1_takeThread μ a1 a2 = some (a, μr)) : mi_ yX1_takeThread cX1_takeThread 4 (some .int) ({ frames := 2, cells := 0, slots := 0, locals := 42 } : Room) G 151 ad (ceX G ad) [.ref (ad 134), .int (iI a1), .int (iI a2)] μ a μr := by
  refine mi_in (own := "UrnHeap$Hands") (lv := [(0, .ref (ad 134)), (1, .int (iI a1)), (2, .int (iI a2))]) (by decide) rfl rfl (Nat.le_of_ble_eq_true rfl) (fun X C E => ?_)
  unfold f_X1_takeThread at h
  refine xx_aload_n C 1 rfl 0 dX1_takeThread_0 rfl rfl ?_
  refine xx_getr (fi := 0) C 4 rfl (by decide) (ceX_134 _ _ _) rfl in_X1 (by decide) rfl rfl w_252 dX1_takeThread_1 ?_
  refine xx_iload_n C 5 rfl 1 dX1_takeThread_4 rfl rfl ?_
  refine xx_cVip (As := [.int (iI a1)]) (st := []) (o := 0) C 8 rfl (by decide) (ceX_0 _ _ _) rfl rfl ca_X2_hasUrn cv_X2_hasUrn w_445 rfl ⟨Nat.le_of_ble_eq_true rfl, Nat.le_of_ble_eq_true rfl⟩ ⟨Nat.le_of_ble_eq_true rfl, Nat.le_of_ble_eq_true rfl⟩ (Nat.le_of_ble_eq_true rfl) dX1_takeThread_5 (fun v5 e9 => c_X2_hasUrn _ _ v5 e9) h (fun v5 h => ?_) rfl
  refine xx_if_eq (tgt := 18) C 11 rfl dX1_takeThread_8 (by decide) h (fun h => ?_) (fun h => ?_)
  · refine xx_bipush C 20 rfl dX1_takeThread_18 (by decide) ?_
    exact xx_iret C E rfl ⟨Nat.le_of_ble_eq_true rfl, Nat.le_of_ble_eq_true rfl⟩ dX1_takeThread_20 h
  · refine xx_iload_n C 12 rfl 2 dX1_takeThread_11 rfl rfl ?_
    refine xx_cNip (As := [.int (iI a2)]) (st := []) C 15 rfl  ca_X11_isSlot cs_X11_isSlot 4 rfl rfl ⟨Nat.le_of_ble_eq_true rfl, Nat.le_of_ble_eq_true rfl⟩ ⟨Nat.le_of_ble_eq_true rfl, Nat.le_of_ble_eq_true rfl⟩ (Nat.le_of_ble_eq_true rfl) dX1_takeThread_12 (fun v12 e9 => c_X11_isSlot _ _ v12 e9) h (fun v12 h => ?_) rfl
    refine xx_if_ne (tgt := 21) C 18 rfl dX1_takeThread_15 (by decide) h (fun h => ?_) (fun h => ?_)
    · refine xx_aload_n C 22 rfl 0 dX1_takeThread_21 rfl rfl ?_
      refine xx_getr (fi := 0) C 25 rfl (by decide) (ceX_134 _ _ _) rfl in_X1 (by decide) rfl rfl w_252 dX1_takeThread_22 ?_
      refine xx_iload_n C 26 rfl 1 dX1_takeThread_25 rfl rfl ?_
      refine xx_iload_n C 27 rfl 2 dX1_takeThread_26 rfl rfl ?_
      refine xx_cVip (As := [.int (iI a1), .int (iI a2)]) (st := []) (o := 0) C 30 rfl (by decide) (ceX_0 _ _ _) rfl rfl ca_X2_target cv_X2_target w_486 rfl ⟨Nat.le_of_ble_eq_true rfl, Nat.le_of_ble_eq_true rfl⟩ ⟨Nat.le_of_ble_eq_true rfl, Nat.le_of_ble_eq_true rfl⟩ (Nat.le_of_ble_eq_true rfl) dX1_takeThread_27 (fun v27 e9 => c_X2_target _ _ _ v27 e9) h (fun v27 h => ?_) rfl
      refine xx_istore_n (lv1 := [(3, .int (iI v27)), (0, .ref (ad 134)), (1, .int (iI a1)), (2, .int (iI a2))]) C 31 rfl (by decide) dX1_takeThread_30 rfl rfl ?_
      refine xx_iload_n C 32 rfl 0 dX1_takeThread_31 rfl rfl ?_
      refine xx_bipush C 34 rfl dX1_takeThread_32 (by decide) ?_
      refine xx_icmp_ne (tgt := 47) C 37 rfl dX1_takeThread_34 (by decide) h (fun h => ?_) (fun h => ?_)
      · refine xx_aload_n C 48 rfl 1 dX1_takeThread_47 rfl rfl ?_
        refine xx_getr (fi := 0) C 51 rfl (by decide) (ceX_134 _ _ _) rfl in_X1 (by decide) rfl rfl w_252 dX1_takeThread_48 ?_
        refine xx_getr (fi := 0) C 54 rfl (by decide) (ceX_0 _ _ _) rfl in_X2 (by decide) rfl rfl w_136 dX1_takeThread_51 ?_
        refine xx_iload_n C 55 rfl 2 dX1_takeThread_54 rfl rfl ?_
        refine xx_iconst C 56 rfl dX1_takeThread_55 ?_
        refine xx_imul C 57 rfl dX1_takeThread_56 ?_
        refine xx_iload_n C 58 rfl 3 dX1_takeThread_57 rfl rfl ?_
        refine xx_iadd C 59 rfl dX1_takeThread_58 ?_
        refine xx_bipush C 61 rfl dX1_takeThread_59 (by decide) ?_
        refine xx_iastore C 62 rfl (by decide) (fun row => ceX_1 _ _ row) (by decide) dX1_takeThread_61 h (fun μ61 h => ?_)
        refine xx_iload_n C 63 rfl 0 dX1_takeThread_62 rfl rfl ?_
        exact xx_iret C E rfl ⟨Nat.le_of_ble_eq_true rfl, Nat.le_of_ble_eq_true rfl⟩ dX1_takeThread_63 h
      · refine xx_aload_n C 38 rfl 1 dX1_takeThread_37 rfl rfl ?_
        refine xx_getr (fi := 1) C 41 rfl (by decide) (ceX_134 _ _ _) rfl in_X1 (by decide) rfl rfl w_253 dX1_takeThread_38 ?_
        refine xx_iconst C 42 rfl dX1_takeThread_41 ?_
        refine xx_iload_n C 43 rfl 3 dX1_takeThread_42 rfl rfl ?_
        refine xx_cVi (As := [.int (iI 2), .int (iI a2)]) (st := []) (o := 133) C 46 rfl (by decide) (ceX_133 _ _ _) rfl rfl ca_X8_refuse cv_X8_refuse w_453 rfl ⟨Nat.le_of_ble_eq_true rfl, Nat.le_of_ble_eq_true rfl⟩ ⟨Nat.le_of_ble_eq_true rfl, Nat.le_of_ble_eq_true rfl⟩ (Nat.le_of_ble_eq_true rfl) dX1_takeThread_43 (fun v43 μ43 e9 => c_X8_refuse _ _ _ v43 μ43 e9) h (fun v43 μ43 h => ?_) rfl
        exact xx_iret C E rfl ⟨Nat.le_of_ble_eq_true rfl, Nat.le_of_ble_eq_true rfl⟩ dX1_takeThread_46 h
    · refine xx_bipush C 20 rfl dX1_takeThread_18 (by decide) ?_
      exact xx_iret C E rfl ⟨Nat.le_of_ble_eq_true rfl, Nat.le_of_ble_eq_true rfl⟩ dX1_takeThread_20 h

def f_X1_tieWeak (μ : mu_T) (a1 : Int) (a2 : Int) : Option (Int × mu_T) :=
  bd_ (f_X2_hasUrn μ a1) (fun v5 => eq_ v5 0
      (some ((-11), μ))
      (bd_ (f_X2_hasUrn μ a2) (fun v16 => eq_ v16 0
      (some ((-11), μ))
      (bd_ (f_X2_isToBeSwept μ a1) (fun v30 => eq_ v30 0
      (bd_ (f_X2_isToBeSwept μ a2) (fun v52 => eq_ v52 0
      (rd_ μ 2 24 a1 (fun v77 => wr_ μ 2 24 a1 a2 (fun μ88 => some (v77, μ88))))
      (bp_ (f_X8_refuse μ 7 a2) (fun v65 μ65 => some (v65, μ65)))))
      (bp_ (f_X8_refuse μ 7 a1) (fun v43 μ43 => some (v43, μ43))))))))
set_option maxHeartbeats 4000000 in
set_option maxRecDepth 100000 in
theorem c_X1_tieWeak {G : gp_} {ad : Nat → Nat} (μ : mu_T) (a1 : Int) (a2 : Int) (a : Int) (μr : mu_T) (h : f_X1_tieWeak μ a1 a2 = some (a, μr)) : mi_ yX1_tieWeak cX1_tieWeak 4 (some .int) ({ frames := 2, cells := 0, slots := 0, locals := 42 } : Room) G 151 ad (ceX G ad) [.ref (ad 134), .int (iI a1), .int (iI a2)] μ a μr := by
  refine mi_in (own := "UrnHeap$Hands") (lv := [(0, .ref (ad 134)), (1, .int (iI a1)), (2, .int (iI a2))]) (by decide) rfl rfl (Nat.le_of_ble_eq_true rfl) (fun X C E => ?_)
  unfold f_X1_tieWeak at h
  refine xx_aload_n C 1 rfl 0 dX1_tieWeak_0 rfl rfl ?_
  refine xx_getr (fi := 0) C 4 rfl (by decide) (ceX_134 _ _ _) rfl in_X1 (by decide) rfl rfl w_252 dX1_tieWeak_1 ?_
  refine xx_iload_n C 5 rfl 1 dX1_tieWeak_4 rfl rfl ?_
  refine xx_cVip (As := [.int (iI a1)]) (st := []) (o := 0) C 8 rfl (by decide) (ceX_0 _ _ _) rfl rfl ca_X2_hasUrn cv_X2_hasUrn w_445 rfl ⟨Nat.le_of_ble_eq_true rfl, Nat.le_of_ble_eq_true rfl⟩ ⟨Nat.le_of_ble_eq_true rfl, Nat.le_of_ble_eq_true rfl⟩ (Nat.le_of_ble_eq_true rfl) dX1_tieWeak_5 (fun v5 e9 => c_X2_hasUrn _ _ v5 e9) h (fun v5 h => ?_) rfl
  refine xx_if_eq (tgt := 22) C 11 rfl dX1_tieWeak_8 (by decide) h (fun h => ?_) (fun h => ?_)
  · refine xx_bipush C 24 rfl dX1_tieWeak_22 (by decide) ?_
    exact xx_iret C E rfl ⟨Nat.le_of_ble_eq_true rfl, Nat.le_of_ble_eq_true rfl⟩ dX1_tieWeak_24 h
  · refine xx_aload_n C 12 rfl 0 dX1_tieWeak_11 rfl rfl ?_
    refine xx_getr (fi := 0) C 15 rfl (by decide) (ceX_134 _ _ _) rfl in_X1 (by decide) rfl rfl w_252 dX1_tieWeak_12 ?_
    refine xx_iload_n C 16 rfl 2 dX1_tieWeak_15 rfl rfl ?_
    refine xx_cVip (As := [.int (iI a2)]) (st := []) (o := 0) C 19 rfl (by decide) (ceX_0 _ _ _) rfl rfl ca_X2_hasUrn cv_X2_hasUrn w_445 rfl ⟨Nat.le_of_ble_eq_true rfl, Nat.le_of_ble_eq_true rfl⟩ ⟨Nat.le_of_ble_eq_true rfl, Nat.le_of_ble_eq_true rfl⟩ (Nat.le_of_ble_eq_true rfl) dX1_tieWeak_16 (fun v16 e9 => c_X2_hasUrn _ _ v16 e9) h (fun v16 h => ?_) rfl
    refine xx_if_ne (tgt := 25) C 22 rfl dX1_tieWeak_19 (by decide) h (fun h => ?_) (fun h => ?_)
    · refine xx_aload_n C 26 rfl 0 dX1_tieWeak_25 rfl rfl ?_
      refine xx_getr (fi := 0) C 29 rfl (by decide) (ceX_134 _ _ _) rfl in_X1 (by decide) rfl rfl w_252 dX1_tieWeak_26 ?_
      refine xx_iload_n C 30 rfl 1 dX1_tieWeak_29 rfl rfl ?_
      refine xx_cVip (As := [.int (iI a1)]) (st := []) (o := 0) C 33 rfl (by decide) (ceX_0 _ _ _) rfl rfl ca_X2_isToBeSwept cv_X2_isToBeSwept w_478 rfl ⟨Nat.le_of_ble_eq_true rfl, Nat.le_of_ble_eq_true rfl⟩ ⟨Nat.le_of_ble_eq_true rfl, Nat.le_of_ble_eq_true rfl⟩ (Nat.le_of_ble_eq_true rfl) dX1_tieWeak_30 (fun v30 e9 => c_X2_isToBeSwept _ _ v30 e9) h (fun v30 h => ?_) rfl
      refine xx_if_eq (tgt := 47) C 36 rfl dX1_tieWeak_33 (by decide) h (fun h => ?_) (fun h => ?_)
      · refine xx_aload_n C 48 rfl 0 dX1_tieWeak_47 rfl rfl ?_
        refine xx_getr (fi := 0) C 51 rfl (by decide) (ceX_134 _ _ _) rfl in_X1 (by decide) rfl rfl w_252 dX1_tieWeak_48 ?_
        refine xx_iload_n C 52 rfl 2 dX1_tieWeak_51 rfl rfl ?_
        refine xx_cVip (As := [.int (iI a2)]) (st := []) (o := 0) C 55 rfl (by decide) (ceX_0 _ _ _) rfl rfl ca_X2_isToBeSwept cv_X2_isToBeSwept w_478 rfl ⟨Nat.le_of_ble_eq_true rfl, Nat.le_of_ble_eq_true rfl⟩ ⟨Nat.le_of_ble_eq_true rfl, Nat.le_of_ble_eq_true rfl⟩ (Nat.le_of_ble_eq_true rfl) dX1_tieWeak_52 (fun v52 e9 => c_X2_isToBeSwept _ _ v52 e9) h (fun v52 h => ?_) rfl
        refine xx_if_eq (tgt := 69) C 58 rfl dX1_tieWeak_55 (by decide) h (fun h => ?_) (fun h => ?_)
        · refine xx_aload_n C 70 rfl 0 dX1_tieWeak_69 rfl rfl ?_
          refine xx_getr (fi := 0) C 73 rfl (by decide) (ceX_134 _ _ _) rfl in_X1 (by decide) rfl rfl w_252 dX1_tieWeak_70 ?_
          refine xx_getr (fi := 1) C 76 rfl (by decide) (ceX_0 _ _ _) rfl in_X2 (by decide) rfl rfl w_140 dX1_tieWeak_73 ?_
          refine xx_iload_n C 77 rfl 1 dX1_tieWeak_76 rfl rfl ?_
          refine xx_iaload C 78 rfl (by decide) (fun row => ceX_2 _ _ row) (by decide) dX1_tieWeak_77 h (fun v77 h => ?_)
          refine xx_istore_n (lv1 := [(3, .int (iI v77)), (0, .ref (ad 134)), (1, .int (iI a1)), (2, .int (iI a2))]) C 79 rfl (by decide) dX1_tieWeak_78 rfl rfl ?_
          refine xx_aload_n C 80 rfl 1 dX1_tieWeak_79 rfl rfl ?_
          refine xx_getr (fi := 0) C 83 rfl (by decide) (ceX_134 _ _ _) rfl in_X1 (by decide) rfl rfl w_252 dX1_tieWeak_80 ?_
          refine xx_getr (fi := 1) C 86 rfl (by decide) (ceX_0 _ _ _) rfl in_X2 (by decide) rfl rfl w_140 dX1_tieWeak_83 ?_
          refine xx_iload_n C 87 rfl 2 dX1_tieWeak_86 rfl rfl ?_
          refine xx_iload_n C 88 rfl 3 dX1_tieWeak_87 rfl rfl ?_
          refine xx_iastore C 89 rfl (by decide) (fun row => ceX_2 _ _ row) (by decide) dX1_tieWeak_88 h (fun μ88 h => ?_)
          refine xx_iload_n C 90 rfl 0 dX1_tieWeak_89 rfl rfl ?_
          exact xx_iret C E rfl ⟨Nat.le_of_ble_eq_true rfl, Nat.le_of_ble_eq_true rfl⟩ dX1_tieWeak_90 h
        · refine xx_aload_n C 59 rfl 0 dX1_tieWeak_58 rfl rfl ?_
          refine xx_getr (fi := 1) C 62 rfl (by decide) (ceX_134 _ _ _) rfl in_X1 (by decide) rfl rfl w_253 dX1_tieWeak_59 ?_
          refine xx_bipush C 64 rfl dX1_tieWeak_62 (by decide) ?_
          refine xx_iload_n C 65 rfl 2 dX1_tieWeak_64 rfl rfl ?_
          refine xx_cVi (As := [.int (iI 7), .int (iI a2)]) (st := []) (o := 133) C 68 rfl (by decide) (ceX_133 _ _ _) rfl rfl ca_X8_refuse cv_X8_refuse w_453 rfl ⟨Nat.le_of_ble_eq_true rfl, Nat.le_of_ble_eq_true rfl⟩ ⟨Nat.le_of_ble_eq_true rfl, Nat.le_of_ble_eq_true rfl⟩ (Nat.le_of_ble_eq_true rfl) dX1_tieWeak_65 (fun v65 μ65 e9 => c_X8_refuse _ _ _ v65 μ65 e9) h (fun v65 μ65 h => ?_) rfl
          exact xx_iret C E rfl ⟨Nat.le_of_ble_eq_true rfl, Nat.le_of_ble_eq_true rfl⟩ dX1_tieWeak_68 h
      · refine xx_aload_n C 37 rfl 0 dX1_tieWeak_36 rfl rfl ?_
        refine xx_getr (fi := 1) C 40 rfl (by decide) (ceX_134 _ _ _) rfl in_X1 (by decide) rfl rfl w_253 dX1_tieWeak_37 ?_
        refine xx_bipush C 42 rfl dX1_tieWeak_40 (by decide) ?_
        refine xx_iload_n C 43 rfl 1 dX1_tieWeak_42 rfl rfl ?_
        refine xx_cVi (As := [.int (iI 7), .int (iI a1)]) (st := []) (o := 133) C 46 rfl (by decide) (ceX_133 _ _ _) rfl rfl ca_X8_refuse cv_X8_refuse w_453 rfl ⟨Nat.le_of_ble_eq_true rfl, Nat.le_of_ble_eq_true rfl⟩ ⟨Nat.le_of_ble_eq_true rfl, Nat.le_of_ble_eq_true rfl⟩ (Nat.le_of_ble_eq_true rfl) dX1_tieWeak_43 (fun v43 μ43 e9 => c_X8_refuse _ _ _ v43 μ43 e9) h (fun v43 μ43 h => ?_) rfl
        exact xx_iret C E rfl ⟨Nat.le_of_ble_eq_true rfl, Nat.le_of_ble_eq_true rfl⟩ dX1_tieWeak_46 h
    · refine xx_bipush C 24 rfl dX1_tieWeak_22 (by decide) ?_
      exact xx_iret C E rfl ⟨Nat.le_of_ble_eq_true rfl, Nat.le_of_ble_eq_true rfl⟩ dX1_tieWeak_24 h

def f_X1_takeWeak (μ : mu_T) (a1 : Int) : Option (Int × mu_T) :=
  bd_ (f_X2_hasUrn μ a1) (fun v5 => eq_ v5 0
      (some ((-11), μ))
      (rd_ μ 2 24 a1 (fun v22 => eq_ v22 (-15)
      (bp_ (f_X8_refuse μ 2 4) (fun v36 μ36 => some (v36, μ36)))
      (wr_ μ 2 24 a1 (-15) (fun μ50 => some (v22, μ50))))))
set_option maxHeartbeats 4000000 in
set_option maxRecDepth 100000 in
theorem c_X1_takeWeak {G : gp_} {ad : Nat → Nat} (μ : mu_T) (a1 : Int) (a : Int) (μr : mu_T) (h : f_X1_takeWeak μ a1 = some (a, μr)) : mi_ yX1_takeWeak cX1_takeWeak 3 (some .int) ({ frames := 1, cells := 0, slots := 0, locals := 22 } : Room) G 151 ad (ceX G ad) [.ref (ad 134), .int (iI a1)] μ a μr := by
  refine mi_in (own := "UrnHeap$Hands") (lv := [(0, .ref (ad 134)), (1, .int (iI a1))]) (by decide) rfl rfl (Nat.le_of_ble_eq_true rfl) (fun X C E => ?_)
  unfold f_X1_takeWeak at h
  refine xx_aload_n C 1 rfl 0 dX1_takeWeak_0 rfl rfl ?_
  refine xx_getr (fi := 0) C 4 rfl (by decide) (ceX_134 _ _ _) rfl in_X1 (by decide) rfl rfl w_252 dX1_takeWeak_1 ?_
  refine xx_iload_n C 5 rfl 1 dX1_takeWeak_4 rfl rfl ?_
  refine xx_cVip (As := [.int (iI a1)]) (st := []) (o := 0) C 8 rfl (by decide) (ceX_0 _ _ _) rfl rfl ca_X2_hasUrn cv_X2_hasUrn w_445 rfl ⟨Nat.le_of_ble_eq_true rfl, Nat.le_of_ble_eq_true rfl⟩ ⟨Nat.le_of_ble_eq_true rfl, Nat.le_of_ble_eq_true rfl⟩ (Nat.le_of_ble_eq_true rfl) dX1_takeWeak_5 (fun v5 e9 => c_X2_hasUrn _ _ v5 e9) h (fun v5 h => ?_) rfl
  refine xx_if_ne (tgt := 14) C 11 rfl dX1_takeWeak_8 (by decide) h (fun h => ?_) (fun h => ?_)
  · refine xx_aload_n C 15 rfl 0 dX1_takeWeak_14 rfl rfl ?_
    refine xx_getr (fi := 0) C 18 rfl (by decide) (ceX_134 _ _ _) rfl in_X1 (by decide) rfl rfl w_252 dX1_takeWeak_15 ?_
    refine xx_getr (fi := 1) C 21 rfl (by decide) (ceX_0 _ _ _) rfl in_X2 (by decide) rfl rfl w_140 dX1_takeWeak_18 ?_
    refine xx_iload_n C 22 rfl 1 dX1_takeWeak_21 rfl rfl ?_
    refine xx_iaload C 23 rfl (by decide) (fun row => ceX_2 _ _ row) (by decide) dX1_takeWeak_22 h (fun v22 h => ?_)
    refine xx_istore_n (lv1 := [(2, .int (iI v22)), (0, .ref (ad 134)), (1, .int (iI a1))]) C 24 rfl (by decide) dX1_takeWeak_23 rfl rfl ?_
    refine xx_iload_n C 25 rfl 0 dX1_takeWeak_24 rfl rfl ?_
    refine xx_bipush C 27 rfl dX1_takeWeak_25 (by decide) ?_
    refine xx_icmp_ne (tgt := 40) C 30 rfl dX1_takeWeak_27 (by decide) h (fun h => ?_) (fun h => ?_)
    · refine xx_aload_n C 41 rfl 1 dX1_takeWeak_40 rfl rfl ?_
      refine xx_getr (fi := 0) C 44 rfl (by decide) (ceX_134 _ _ _) rfl in_X1 (by decide) rfl rfl w_252 dX1_takeWeak_41 ?_
      refine xx_getr (fi := 1) C 47 rfl (by decide) (ceX_0 _ _ _) rfl in_X2 (by decide) rfl rfl w_140 dX1_takeWeak_44 ?_
      refine xx_iload_n C 48 rfl 2 dX1_takeWeak_47 rfl rfl ?_
      refine xx_bipush C 50 rfl dX1_takeWeak_48 (by decide) ?_
      refine xx_iastore C 51 rfl (by decide) (fun row => ceX_2 _ _ row) (by decide) dX1_takeWeak_50 h (fun μ50 h => ?_)
      refine xx_iload_n C 52 rfl 0 dX1_takeWeak_51 rfl rfl ?_
      exact xx_iret C E rfl ⟨Nat.le_of_ble_eq_true rfl, Nat.le_of_ble_eq_true rfl⟩ dX1_takeWeak_52 h
    · refine xx_aload_n C 31 rfl 1 dX1_takeWeak_30 rfl rfl ?_
      refine xx_getr (fi := 1) C 34 rfl (by decide) (ceX_134 _ _ _) rfl in_X1 (by decide) rfl rfl w_253 dX1_takeWeak_31 ?_
      refine xx_iconst C 35 rfl dX1_takeWeak_34 ?_
      refine xx_iconst C 36 rfl dX1_takeWeak_35 ?_
      refine xx_cVi (As := [.int (iI 2), .int (iI 4)]) (st := []) (o := 133) C 39 rfl (by decide) (ceX_133 _ _ _) rfl rfl ca_X8_refuse cv_X8_refuse w_453 rfl ⟨Nat.le_of_ble_eq_true rfl, Nat.le_of_ble_eq_true rfl⟩ ⟨Nat.le_of_ble_eq_true rfl, Nat.le_of_ble_eq_true rfl⟩ (Nat.le_of_ble_eq_true rfl) dX1_takeWeak_36 (fun v36 μ36 e9 => c_X8_refuse _ _ _ v36 μ36 e9) h (fun v36 μ36 h => ?_) rfl
      exact xx_iret C E rfl ⟨Nat.le_of_ble_eq_true rfl, Nat.le_of_ble_eq_true rfl⟩ dX1_takeWeak_39 h
  · refine xx_bipush C 13 rfl dX1_takeWeak_11 (by decide) ?_
    exact xx_iret C E rfl ⟨Nat.le_of_ble_eq_true rfl, Nat.le_of_ble_eq_true rfl⟩ dX1_takeWeak_13 h

def f_X11_isName (μ : mu_T) (a0 : Int) : Option Int :=
  lt_ a0 0
      (some 0)
      (lt_ a0 6
      (some 1)
      (some 0))
set_option maxHeartbeats 4000000 in
set_option maxRecDepth 100000 in
theorem c_X11_isName {G : gp_} {ad : Nat → Nat} (μ : mu_T) (a0 : Int) (a : Int) (h : f_X11_isName μ a0 = some a) : mi_ yX11_isName cX11_isName 1 (some .boolean) ({ frames := 0, cells := 0, slots := 0, locals := 0 } : Room) G 151 ad (ceX G ad) [.int (iI a0)] μ a μ := by
  refine mi_in (own := "UrnHeap") (lv := [(0, .int (iI a0))]) (by decide) rfl rfl (Nat.le_of_ble_eq_true rfl) (fun X C E => ?_)
  unfold f_X11_isName at h
  refine xx_iload_n C 1 rfl 0 dX11_isName_0 rfl rfl ?_
  refine xx_if_lt (tgt := 14) C 4 rfl dX11_isName_1 (by decide) h (fun h => ?_) (fun h => ?_)
  · refine xx_iconst C 15 rfl dX11_isName_14 ?_
    exact xx_zretl C E rfl rfl ⟨Nat.le_of_ble_eq_true rfl, Nat.le_of_ble_eq_true rfl⟩ dX11_isName_15 h
  · refine xx_iload_n C 5 rfl 0 dX11_isName_4 rfl rfl ?_
    refine xx_bipush C 7 rfl dX11_isName_5 (by decide) ?_
    refine xx_icmp_ge (tgt := 14) C 10 rfl dX11_isName_7 (by decide) h (fun h => ?_) (fun h => ?_)
    · refine xx_iconst C 15 rfl dX11_isName_14 ?_
      exact xx_zretl C E rfl rfl ⟨Nat.le_of_ble_eq_true rfl, Nat.le_of_ble_eq_true rfl⟩ dX11_isName_15 h
    · refine xx_iconst C 11 rfl dX11_isName_10 ?_
      refine xx_goto C 15 dX11_isName_11 (by decide) ?_
      exact xx_zretl C E rfl rfl ⟨Nat.le_of_ble_eq_true rfl, Nat.le_of_ble_eq_true rfl⟩ dX11_isName_15 h

def f_X1_giveName (μ : mu_T) (a1 : Int) (a2 : Int) : Option (Int × mu_T) :=
  bd_ (f_X11_isName μ a1) (fun v1 => eq_ v1 0
      (some ((-11), μ))
      (bd_ (f_X2_hasUrn μ a2) (fun v12 => eq_ v12 0
      (some ((-11), μ))
      (bd_ (f_X2_isToBeSwept μ a2) (fun v26 => eq_ v26 0
      (rd_ μ 6 6 a1 (fun v51 => wr_ μ 6 6 a1 a2 (fun μ62 => bd_ (f_X2_makeGreyInRound μ62 a2) (fun μ68 => some (v51, μ68)))))
      (bp_ (f_X8_refuse μ 7 a2) (fun v39 μ39 => some (v39, μ39))))))))
set_option maxHeartbeats 4000000 in
set_option maxRecDepth 100000 in
theorem c_X1_giveName {G : gp_} {ad : Nat → Nat} (μ : mu_T) (a1 : Int) (a2 : Int) (a : Int) (μr : mu_T) (h : f_X1_giveName μ a1 a2 = some (a, μr)) : mi_ yX1_giveName cX1_giveName 4 (some .int) ({ frames := 3, cells := 0, slots := 0, locals := 63 } : Room) G 151 ad (ceX G ad) [.ref (ad 134), .int (iI a1), .int (iI a2)] μ a μr := by
  refine mi_in (own := "UrnHeap$Hands") (lv := [(0, .ref (ad 134)), (1, .int (iI a1)), (2, .int (iI a2))]) (by decide) rfl rfl (Nat.le_of_ble_eq_true rfl) (fun X C E => ?_)
  unfold f_X1_giveName at h
  refine xx_iload_n C 1 rfl 1 dX1_giveName_0 rfl rfl ?_
  refine xx_cNip (As := [.int (iI a1)]) (st := []) C 4 rfl  ca_X11_isName cs_X11_isName 7 rfl rfl ⟨Nat.le_of_ble_eq_true rfl, Nat.le_of_ble_eq_true rfl⟩ ⟨Nat.le_of_ble_eq_true rfl, Nat.le_of_ble_eq_true rfl⟩ (Nat.le_of_ble_eq_true rfl) dX1_giveName_1 (fun v1 e9 => c_X11_isName _ _ v1 e9) h (fun v1 h => ?_) rfl
  refine xx_if_eq (tgt := 18) C 7 rfl dX1_giveName_4 (by decide) h (fun h => ?_) (fun h => ?_)
  · refine xx_bipush C 20 rfl dX1_giveName_18 (by decide) ?_
    exact xx_iret C E rfl ⟨Nat.le_of_ble_eq_true rfl, Nat.le_of_ble_eq_true rfl⟩ dX1_giveName_20 h
  · refine xx_aload_n C 8 rfl 0 dX1_giveName_7 rfl rfl ?_
    refine xx_getr (fi := 0) C 11 rfl (by decide) (ceX_134 _ _ _) rfl in_X1 (by decide) rfl rfl w_252 dX1_giveName_8 ?_
    refine xx_iload_n C 12 rfl 2 dX1_giveName_11 rfl rfl ?_
    refine xx_cVip (As := [.int (iI a2)]) (st := []) (o := 0) C 15 rfl (by decide) (ceX_0 _ _ _) rfl rfl ca_X2_hasUrn cv_X2_hasUrn w_445 rfl ⟨Nat.le_of_ble_eq_true rfl, Nat.le_of_ble_eq_true rfl⟩ ⟨Nat.le_of_ble_eq_true rfl, Nat.le_of_ble_eq_true rfl⟩ (Nat.le_of_ble_eq_true rfl) dX1_giveName_12 (fun v12 e9 => c_X2_hasUrn _ _ v12 e9) h (fun v12 h => ?_) rfl
    refine xx_if_ne (tgt := 21) C 18 rfl dX1_giveName_15 (by decide) h (fun h => ?_) (fun h => ?_)
    · refine xx_aload_n C 22 rfl 0 dX1_giveName_21 rfl rfl ?_
      refine xx_getr (fi := 0) C 25 rfl (by decide) (ceX_134 _ _ _) rfl in_X1 (by decide) rfl rfl w_252 dX1_giveName_22 ?_
      refine xx_iload_n C 26 rfl 2 dX1_giveName_25 rfl rfl ?_
      refine xx_cVip (As := [.int (iI a2)]) (st := []) (o := 0) C 29 rfl (by decide) (ceX_0 _ _ _) rfl rfl ca_X2_isToBeSwept cv_X2_isToBeSwept w_478 rfl ⟨Nat.le_of_ble_eq_true rfl, Nat.le_of_ble_eq_true rfl⟩ ⟨Nat.le_of_ble_eq_true rfl, Nat.le_of_ble_eq_true rfl⟩ (Nat.le_of_ble_eq_true rfl) dX1_giveName_26 (fun v26 e9 => c_X2_isToBeSwept _ _ v26 e9) h (fun v26 h => ?_) rfl
      refine xx_if_eq (tgt := 43) C 32 rfl dX1_giveName_29 (by decide) h (fun h => ?_) (fun h => ?_)
      · refine xx_aload_n C 44 rfl 0 dX1_giveName_43 rfl rfl ?_
        refine xx_getr (fi := 0) C 47 rfl (by decide) (ceX_134 _ _ _) rfl in_X1 (by decide) rfl rfl w_252 dX1_giveName_44 ?_
        refine xx_getr (fi := 5) C 50 rfl (by decide) (ceX_0 _ _ _) rfl in_X2 (by decide) rfl rfl w_160 dX1_giveName_47 ?_
        refine xx_iload_n C 51 rfl 1 dX1_giveName_50 rfl rfl ?_
        refine xx_iaload C 52 rfl (by decide) (fun row => ceX_6 _ _ row) (by decide) dX1_giveName_51 h (fun v51 h => ?_)
        refine xx_istore_n (lv1 := [(3, .int (iI v51)), (0, .ref (ad 134)), (1, .int (iI a1)), (2, .int (iI a2))]) C 53 rfl (by decide) dX1_giveName_52 rfl rfl ?_
        refine xx_aload_n C 54 rfl 1 dX1_giveName_53 rfl rfl ?_
        refine xx_getr (fi := 0) C 57 rfl (by decide) (ceX_134 _ _ _) rfl in_X1 (by decide) rfl rfl w_252 dX1_giveName_54 ?_
        refine xx_getr (fi := 5) C 60 rfl (by decide) (ceX_0 _ _ _) rfl in_X2 (by decide) rfl rfl w_160 dX1_giveName_57 ?_
        refine xx_iload_n C 61 rfl 2 dX1_giveName_60 rfl rfl ?_
        refine xx_iload_n C 62 rfl 3 dX1_giveName_61 rfl rfl ?_
        refine xx_iastore C 63 rfl (by decide) (fun row => ceX_6 _ _ row) (by decide) dX1_giveName_62 h (fun μ62 h => ?_)
        refine xx_aload_n C 64 rfl 1 dX1_giveName_63 rfl rfl ?_
        refine xx_getr (fi := 0) C 67 rfl (by decide) (ceX_134 _ _ _) rfl in_X1 (by decide) rfl rfl w_252 dX1_giveName_64 ?_
        refine xx_iload_n C 68 rfl 3 dX1_giveName_67 rfl rfl ?_
        refine xx_cVv (As := [.int (iI a2)]) (st := []) (o := 0) C 71 rfl (by decide) (ceX_0 _ _ _) rfl rfl ca_X2_makeGreyInRound cv_X2_makeGreyInRound w_494 rfl ⟨Nat.le_of_ble_eq_true rfl, Nat.le_of_ble_eq_true rfl⟩ ⟨Nat.le_of_ble_eq_true rfl, Nat.le_of_ble_eq_true rfl⟩ (Nat.le_of_ble_eq_true rfl) dX1_giveName_68 (fun μ68 e9 => c_X2_makeGreyInRound _ _ μ68 e9) h (fun μ68 h => ?_) rfl
        refine xx_iload_n C 72 rfl 0 dX1_giveName_71 rfl rfl ?_
        exact xx_iret C E rfl ⟨Nat.le_of_ble_eq_true rfl, Nat.le_of_ble_eq_true rfl⟩ dX1_giveName_72 h
      · refine xx_aload_n C 33 rfl 0 dX1_giveName_32 rfl rfl ?_
        refine xx_getr (fi := 1) C 36 rfl (by decide) (ceX_134 _ _ _) rfl in_X1 (by decide) rfl rfl w_253 dX1_giveName_33 ?_
        refine xx_bipush C 38 rfl dX1_giveName_36 (by decide) ?_
        refine xx_iload_n C 39 rfl 2 dX1_giveName_38 rfl rfl ?_
        refine xx_cVi (As := [.int (iI 7), .int (iI a2)]) (st := []) (o := 133) C 42 rfl (by decide) (ceX_133 _ _ _) rfl rfl ca_X8_refuse cv_X8_refuse w_453 rfl ⟨Nat.le_of_ble_eq_true rfl, Nat.le_of_ble_eq_true rfl⟩ ⟨Nat.le_of_ble_eq_true rfl, Nat.le_of_ble_eq_true rfl⟩ (Nat.le_of_ble_eq_true rfl) dX1_giveName_39 (fun v39 μ39 e9 => c_X8_refuse _ _ _ v39 μ39 e9) h (fun v39 μ39 h => ?_) rfl
        exact xx_iret C E rfl ⟨Nat.le_of_ble_eq_true rfl, Nat.le_of_ble_eq_true rfl⟩ dX1_giveName_42 h
    · refine xx_bipush C 20 rfl dX1_giveName_18 (by decide) ?_
      exact xx_iret C E rfl ⟨Nat.le_of_ble_eq_true rfl, Nat.le_of_ble_eq_true rfl⟩ dX1_giveName_20 h

def f_X1_takeName (μ : mu_T) (a1 : Int) : Option (Int × mu_T) :=
  bd_ (f_X11_isName μ a1) (fun v1 => eq_ v1 0
      (some ((-11), μ))
      (rd_ μ 6 6 a1 (fun v18 => eq_ v18 (-15)
      (bp_ (f_X8_refuse μ 3 a1) (fun v32 μ32 => some (v32, μ32)))
      (wr_ μ 6 6 a1 (-15) (fun μ46 => some (v18, μ46))))))
set_option maxHeartbeats 4000000 in
set_option maxRecDepth 100000 in
theorem c_X1_takeName {G : gp_} {ad : Nat → Nat} (μ : mu_T) (a1 : Int) (a : Int) (μr : mu_T) (h : f_X1_takeName μ a1 = some (a, μr)) : mi_ yX1_takeName cX1_takeName 3 (some .int) ({ frames := 1, cells := 0, slots := 0, locals := 22 } : Room) G 151 ad (ceX G ad) [.ref (ad 134), .int (iI a1)] μ a μr := by
  refine mi_in (own := "UrnHeap$Hands") (lv := [(0, .ref (ad 134)), (1, .int (iI a1))]) (by decide) rfl rfl (Nat.le_of_ble_eq_true rfl) (fun X C E => ?_)
  unfold f_X1_takeName at h
  refine xx_iload_n C 1 rfl 1 dX1_takeName_0 rfl rfl ?_
  refine xx_cNip (As := [.int (iI a1)]) (st := []) C 4 rfl  ca_X11_isName cs_X11_isName 7 rfl rfl ⟨Nat.le_of_ble_eq_true rfl, Nat.le_of_ble_eq_true rfl⟩ ⟨Nat.le_of_ble_eq_true rfl, Nat.le_of_ble_eq_true rfl⟩ (Nat.le_of_ble_eq_true rfl) dX1_takeName_1 (fun v1 e9 => c_X11_isName _ _ v1 e9) h (fun v1 h => ?_) rfl
  refine xx_if_ne (tgt := 10) C 7 rfl dX1_takeName_4 (by decide) h (fun h => ?_) (fun h => ?_)
  · refine xx_aload_n C 11 rfl 0 dX1_takeName_10 rfl rfl ?_
    refine xx_getr (fi := 0) C 14 rfl (by decide) (ceX_134 _ _ _) rfl in_X1 (by decide) rfl rfl w_252 dX1_takeName_11 ?_
    refine xx_getr (fi := 5) C 17 rfl (by decide) (ceX_0 _ _ _) rfl in_X2 (by decide) rfl rfl w_160 dX1_takeName_14 ?_
    refine xx_iload_n C 18 rfl 1 dX1_takeName_17 rfl rfl ?_
    refine xx_iaload C 19 rfl (by decide) (fun row => ceX_6 _ _ row) (by decide) dX1_takeName_18 h (fun v18 h => ?_)
    refine xx_istore_n (lv1 := [(2, .int (iI v18)), (0, .ref (ad 134)), (1, .int (iI a1))]) C 20 rfl (by decide) dX1_takeName_19 rfl rfl ?_
    refine xx_iload_n C 21 rfl 0 dX1_takeName_20 rfl rfl ?_
    refine xx_bipush C 23 rfl dX1_takeName_21 (by decide) ?_
    refine xx_icmp_ne (tgt := 36) C 26 rfl dX1_takeName_23 (by decide) h (fun h => ?_) (fun h => ?_)
    · refine xx_aload_n C 37 rfl 1 dX1_takeName_36 rfl rfl ?_
      refine xx_getr (fi := 0) C 40 rfl (by decide) (ceX_134 _ _ _) rfl in_X1 (by decide) rfl rfl w_252 dX1_takeName_37 ?_
      refine xx_getr (fi := 5) C 43 rfl (by decide) (ceX_0 _ _ _) rfl in_X2 (by decide) rfl rfl w_160 dX1_takeName_40 ?_
      refine xx_iload_n C 44 rfl 2 dX1_takeName_43 rfl rfl ?_
      refine xx_bipush C 46 rfl dX1_takeName_44 (by decide) ?_
      refine xx_iastore C 47 rfl (by decide) (fun row => ceX_6 _ _ row) (by decide) dX1_takeName_46 h (fun μ46 h => ?_)
      refine xx_iload_n C 48 rfl 0 dX1_takeName_47 rfl rfl ?_
      exact xx_iret C E rfl ⟨Nat.le_of_ble_eq_true rfl, Nat.le_of_ble_eq_true rfl⟩ dX1_takeName_48 h
    · refine xx_aload_n C 27 rfl 1 dX1_takeName_26 rfl rfl ?_
      refine xx_getr (fi := 1) C 30 rfl (by decide) (ceX_134 _ _ _) rfl in_X1 (by decide) rfl rfl w_253 dX1_takeName_27 ?_
      refine xx_iconst C 31 rfl dX1_takeName_30 ?_
      refine xx_iload_n C 32 rfl 2 dX1_takeName_31 rfl rfl ?_
      refine xx_cVi (As := [.int (iI 3), .int (iI a1)]) (st := []) (o := 133) C 35 rfl (by decide) (ceX_133 _ _ _) rfl rfl ca_X8_refuse cv_X8_refuse w_453 rfl ⟨Nat.le_of_ble_eq_true rfl, Nat.le_of_ble_eq_true rfl⟩ ⟨Nat.le_of_ble_eq_true rfl, Nat.le_of_ble_eq_true rfl⟩ (Nat.le_of_ble_eq_true rfl) dX1_takeName_32 (fun v32 μ32 e9 => c_X8_refuse _ _ _ v32 μ32 e9) h (fun v32 μ32 h => ?_) rfl
      exact xx_iret C E rfl ⟨Nat.le_of_ble_eq_true rfl, Nat.le_of_ble_eq_true rfl⟩ dX1_takeName_35 h
  · refine xx_bipush C 9 rfl dX1_takeName_7 (by decide) ?_
    exact xx_iret C E rfl ⟨Nat.le_of_ble_eq_true rfl, Nat.le_of_ble_eq_true rfl⟩ dX1_takeName_9 h

def f_X2_urnsOf_L4 (a1 : Int) (μ : mu_T) : Nat → Int → Int → Option Int
  | 0, _, _ => none
  | fu4 + 1, x2_4, x3_4 => lt_ x3_4 24
      (rd_ μ 4 24 x3_4 (fun v15 => jn_ (φ := Int → Option Int) (fun x2_23 => nm_ (x3_4 + 1) (fun n23 => (f_X2_urnsOf_L4 a1 μ fu4) x2_23 n23))
      (fun J23 => eq_ v15 a1
      (nm_ (x2_4 + 1) (fun n20 => J23 n20))
      (J23 x2_4))))
      (some x2_4)
def f_X2_urnsOf (μ : mu_T) (a1 : Int) : Option Int :=
  f_X2_urnsOf_L4 a1 μ 20000 0 0
set_option maxHeartbeats 4000000 in
set_option maxRecDepth 100000 in
theorem c_X2_urnsOf {G : gp_} {ad : Nat → Nat} (μ : mu_T) (a1 : Int) (a : Int) (h : f_X2_urnsOf μ a1 = some a) : mi_ yX2_urnsOf cX2_urnsOf 4 (some .int) ({ frames := 0, cells := 0, slots := 0, locals := 0 } : Room) G 151 ad (ceX G ad) [.ref (ad 0), .int (iI a1)] μ a μ := by
  refine mi_in (own := "UrnHeap$Heap") (lv := [(0, .ref (ad 0)), (1, .int (iI a1))]) (by decide) rfl rfl (Nat.le_of_ble_eq_true rfl) (fun X C E => ?_)
  unfold f_X2_urnsOf at h
  refine xx_iconst C 1 rfl dX2_urnsOf_0 ?_
  refine xx_istore_n (lv1 := [(2, .int (iI 0)), (0, .ref (ad 0)), (1, .int (iI a1))]) C 2 rfl (by decide) dX2_urnsOf_1 rfl rfl ?_
  refine xx_iconst C 3 rfl dX2_urnsOf_2 ?_
  refine xx_istore_n (lv1 := [(3, .int (iI 0)), (2, .int (iI 0)), (0, .ref (ad 0)), (1, .int (iI a1))]) C 4 rfl (by decide) dX2_urnsOf_3 rfl rfl ?_
  have L4 : ∀ (fu4 : Nat) (x2_4 : Int) (x3_4 : Int), f_X2_urnsOf_L4 a1 μ fu4 x2_4 x3_4 = some a → wx_ G X 151 ad (ceX G ad) μ 0 0 4 [(0, .ref (ad 0)), (1, .int (iI a1)), (2, .int (iI x2_4)), (3, .int (iI x3_4))] [] := by
    intro fu4
    induction fu4 with
    | zero => intro x2_4 x3_4 h; exact nn_ h
    | succ fu4 K4 =>
      intro x2_4 x3_4 h
      rw [f_X2_urnsOf_L4] at h
      generalize f_X2_urnsOf_L4 a1 μ fu4 = R4 at K4 h
      refine xx_iload_n C 5 rfl 3 dX2_urnsOf_4 rfl rfl ?_
      refine xx_bipush C 7 rfl dX2_urnsOf_5 (by decide) ?_
      refine xx_icmp_ge (tgt := 29) C 10 rfl dX2_urnsOf_7 (by decide) h (fun h => ?_) (fun h => ?_)
      · refine xx_iload_n C 30 rfl 2 dX2_urnsOf_29 rfl rfl ?_
        exact xx_iretp C E rfl ⟨Nat.le_of_ble_eq_true rfl, Nat.le_of_ble_eq_true rfl⟩ dX2_urnsOf_30 h
      · refine xx_aload_n C 11 rfl 0 dX2_urnsOf_10 rfl rfl ?_
        refine xx_getr (fi := 3) C 14 rfl (by decide) (ceX_0 _ _ _) rfl in_X2 (by decide) rfl rfl w_149 dX2_urnsOf_11 ?_
        refine xx_iload_n C 15 rfl 3 dX2_urnsOf_14 rfl rfl ?_
        refine xx_iaload C 16 rfl (by decide) (fun row => ceX_4 _ _ row) (by decide) dX2_urnsOf_15 h (fun v15 h => ?_)
        refine xx_iload_n C 17 rfl 1 dX2_urnsOf_16 rfl rfl ?_
        refine jn_r (fun J => ∀ (x2_23 : Int), J x2_23 = some a → wx_ G X 151 ad (ceX G ad) μ 0 0 23 [(0, .ref (ad 0)), (1, .int (iI a1)), (2, .int (iI x2_23)), (3, .int (iI x3_4))] []) h (fun x2_23 h => ?_) (fun J23 K23 h => ?_)
        · refine xx_iincn C 26 rfl 3 (by decide) dX2_urnsOf_23 rfl h (fun n23 h => ?_)
          refine xx_lv (lv1 := [(3, .int (iI n23)), (0, .ref (ad 0)), (1, .int (iI a1)), (2, .int (iI x2_23))]) rfl ?_
          refine xx_goto C 4 dX2_urnsOf_26 (by decide) ?_
          refine xx_sub [1, 2, 3, 0] rfl ?_
          exact K4 x2_23 n23 h
        · refine xx_icmp_ne (tgt := 23) C 20 rfl dX2_urnsOf_17 (by decide) h (fun h => ?_) (fun h => ?_)
          · exact K23 x2_4 h
          · refine xx_iincn C 23 rfl 2 (by decide) dX2_urnsOf_20 rfl h (fun n20 h => ?_)
            refine xx_lv (lv1 := [(2, .int (iI n20)), (0, .ref (ad 0)), (1, .int (iI a1)), (3, .int (iI x3_4))]) rfl ?_
            refine xx_sub [1, 2, 0, 3] rfl ?_
            exact K23 n20 h
  refine xx_sub [2, 3, 1, 0] rfl ?_
  exact L4 _ _ _ h

def f_X2_urns (μ : mu_T)  : Option Int :=
  bd_ (f_X2_urnsOf μ (-1)) (fun v4 => some (24 - v4))
set_option maxHeartbeats 4000000 in
set_option maxRecDepth 100000 in
theorem c_X2_urns {G : gp_} {ad : Nat → Nat} (μ : mu_T)  (a : Int) (h : f_X2_urns μ  = some a) : mi_ yX2_urns cX2_urns 1 (some .int) ({ frames := 1, cells := 0, slots := 0, locals := 23 } : Room) G 151 ad (ceX G ad) [.ref (ad 0)] μ a μ := by
  refine mi_in (own := "UrnHeap$Heap") (lv := [(0, .ref (ad 0))]) (by decide) rfl rfl (Nat.le_of_ble_eq_true rfl) (fun X C E => ?_)
  unfold f_X2_urns at h
  refine xx_bipush C 2 rfl dX2_urns_0 (by decide) ?_
  refine xx_aload_n C 3 rfl 0 dX2_urns_2 rfl rfl ?_
  refine xx_iconst C 4 rfl dX2_urns_3 ?_
  refine xx_cVip (As := [.int (iI (-1))]) (st := [.int (iI 24)]) (o := 0) C 7 rfl (by decide) (ceX_0 _ _ _) rfl rfl ca_X2_urnsOf cv_X2_urnsOf w_1083 rfl ⟨Nat.le_of_ble_eq_true rfl, Nat.le_of_ble_eq_true rfl⟩ ⟨Nat.le_of_ble_eq_true rfl, Nat.le_of_ble_eq_true rfl⟩ (Nat.le_of_ble_eq_true rfl) dX2_urns_4 (fun v4 e9 => c_X2_urnsOf _ _ v4 e9) h (fun v4 h => ?_) rfl
  refine xx_isub C 8 rfl dX2_urns_7 ?_
  exact xx_iretp C E rfl ⟨Nat.le_of_ble_eq_true rfl, Nat.le_of_ble_eq_true rfl⟩ dX2_urns_8 h

def f_X2_namesInUse_L4 (μ : mu_T) : Nat → Int → Int → Option Int
  | 0, _, _ => none
  | fu4 + 1, x1_4, x2_4 => lt_ x2_4 6
      (rd_ μ 6 6 x2_4 (fun v15 => jn_ (φ := Int → Option Int) (fun x1_24 => nm_ (x2_4 + 1) (fun n24 => (f_X2_namesInUse_L4 μ fu4) x1_24 n24))
      (fun J24 => eq_ v15 (-15)
      (J24 x1_4)
      (nm_ (x1_4 + 1) (fun n21 => J24 n21)))))
      (some x1_4)
def f_X2_namesInUse (μ : mu_T)  : Option Int :=
  f_X2_namesInUse_L4 μ 20000 0 0
set_option maxHeartbeats 4000000 in
set_option maxRecDepth 100000 in
theorem c_X2_namesInUse {G : gp_} {ad : Nat → Nat} (μ : mu_T)  (a : Int) (h : f_X2_namesInUse μ  = some a) : mi_ yX2_namesInUse cX2_namesInUse 3 (some .int) ({ frames := 0, cells := 0, slots := 0, locals := 0 } : Room) G 151 ad (ceX G ad) [.ref (ad 0)] μ a μ := by
  refine mi_in (own := "UrnHeap$Heap") (lv := [(0, .ref (ad 0))]) (by decide) rfl rfl (Nat.le_of_ble_eq_true rfl) (fun X C E => ?_)
  unfold f_X2_namesInUse at h
  refine xx_iconst C 1 rfl dX2_namesInUse_0 ?_
  refine xx_istore_n (lv1 := [(1, .int (iI 0)), (0, .ref (ad 0))]) C 2 rfl (by decide) dX2_namesInUse_1 rfl rfl ?_
  refine xx_iconst C 3 rfl dX2_namesInUse_2 ?_
  refine xx_istore_n (lv1 := [(2, .int (iI 0)), (1, .int (iI 0)), (0, .ref (ad 0))]) C 4 rfl (by decide) dX2_namesInUse_3 rfl rfl ?_
  have L4 : ∀ (fu4 : Nat) (x1_4 : Int) (x2_4 : Int), f_X2_namesInUse_L4 μ fu4 x1_4 x2_4 = some a → wx_ G X 151 ad (ceX G ad) μ 0 0 4 [(0, .ref (ad 0)), (1, .int (iI x1_4)), (2, .int (iI x2_4))] [] := by
    intro fu4
    induction fu4 with
    | zero => intro x1_4 x2_4 h; exact nn_ h
    | succ fu4 K4 =>
      intro x1_4 x2_4 h
      rw [f_X2_namesInUse_L4] at h
      generalize f_X2_namesInUse_L4 μ fu4 = R4 at K4 h
      refine xx_iload_n C 5 rfl 2 dX2_namesInUse_4 rfl rfl ?_
      refine xx_bipush C 7 rfl dX2_namesInUse_5 (by decide) ?_
      refine xx_icmp_ge (tgt := 30) C 10 rfl dX2_namesInUse_7 (by decide) h (fun h => ?_) (fun h => ?_)
      · refine xx_iload_n C 31 rfl 1 dX2_namesInUse_30 rfl rfl ?_
        exact xx_iretp C E rfl ⟨Nat.le_of_ble_eq_true rfl, Nat.le_of_ble_eq_true rfl⟩ dX2_namesInUse_31 h
      · refine xx_aload_n C 11 rfl 0 dX2_namesInUse_10 rfl rfl ?_
        refine xx_getr (fi := 5) C 14 rfl (by decide) (ceX_0 _ _ _) rfl in_X2 (by decide) rfl rfl w_157 dX2_namesInUse_11 ?_
        refine xx_iload_n C 15 rfl 2 dX2_namesInUse_14 rfl rfl ?_
        refine xx_iaload C 16 rfl (by decide) (fun row => ceX_6 _ _ row) (by decide) dX2_namesInUse_15 h (fun v15 h => ?_)
        refine xx_bipush C 18 rfl dX2_namesInUse_16 (by decide) ?_
        refine jn_r (fun J => ∀ (x1_24 : Int), J x1_24 = some a → wx_ G X 151 ad (ceX G ad) μ 0 0 24 [(0, .ref (ad 0)), (1, .int (iI x1_24)), (2, .int (iI x2_4))] []) h (fun x1_24 h => ?_) (fun J24 K24 h => ?_)
        · refine xx_iincn C 27 rfl 2 (by decide) dX2_namesInUse_24 rfl h (fun n24 h => ?_)
          refine xx_lv (lv1 := [(2, .int (iI n24)), (0, .ref (ad 0)), (1, .int (iI x1_24))]) rfl ?_
          refine xx_goto C 4 dX2_namesInUse_27 (by decide) ?_
          refine xx_sub [1, 2, 0] rfl ?_
          exact K4 x1_24 n24 h
        · refine xx_icmp_eq (tgt := 24) C 21 rfl dX2_namesInUse_18 (by decide) h (fun h => ?_) (fun h => ?_)
          · exact K24 x1_4 h
          · refine xx_iincn C 24 rfl 1 (by decide) dX2_namesInUse_21 rfl h (fun n21 h => ?_)
            refine xx_lv (lv1 := [(1, .int (iI n21)), (0, .ref (ad 0)), (2, .int (iI x2_4))]) rfl ?_
            refine xx_sub [1, 0, 2] rfl ?_
            exact K24 n21 h
  refine xx_sub [2, 1, 0] rfl ?_
  exact L4 _ _ _ h
end
section
theorem dX2_threadsFrom_0 : decode cX2_threadsFrom 0 = .ok (.iconst 0, 1) := by decide +kernel
theorem dX2_threadsFrom_1 : decode cX2_threadsFrom 1 = .ok (.istore_n 2, 1) := by decide +kernel
theorem dX2_threadsFrom_2 : decode cX2_threadsFrom 2 = .ok (.iconst 0, 1) := by decide +kernel
theorem dX2_threadsFrom_3 : decode cX2_threadsFrom 3 = .ok (.istore_n 3, 1) := by decide +kernel
theorem dX2_threadsFrom_4 : decode cX2_threadsFrom 4 = .ok (.iload_n 3, 1) := by decide +kernel
theorem dX2_threadsFrom_5 : decode cX2_threadsFrom 5 = .ok (.iconst 4, 1) := by decide +kernel
theorem dX2_threadsFrom_6 : decode cX2_threadsFrom 6 = .ok (.if_icmp .ge 23, 3) := by decide +kernel
theorem dX2_threadsFrom_9 : decode cX2_threadsFrom 9 = .ok (.aload_n 0, 1) := by decide +kernel
theorem dX2_threadsFrom_10 : decode cX2_threadsFrom 10 = .ok (.iload_n 1, 1) := by decide +kernel
theorem dX2_threadsFrom_11 : decode cX2_threadsFrom 11 = .ok (.iload_n 3, 1) := by decide +kernel
theorem dX2_threadsFrom_12 : decode cX2_threadsFrom 12 = .ok (.invokevirtual 98, 3) := by decide +kernel
theorem dX2_threadsFrom_15 : decode cX2_threadsFrom 15 = .ok (.bipush (-15), 2) := by decide +kernel
theorem dX2_threadsFrom_17 : decode cX2_threadsFrom 17 = .ok (.if_icmp .eq 6, 3) := by decide +kernel
theorem dX2_threadsFrom_20 : decode cX2_threadsFrom 20 = .ok (.iinc 2 1, 3) := by decide +kernel
theorem dX2_threadsFrom_23 : decode cX2_threadsFrom 23 = .ok (.iinc 3 1, 3) := by decide +kernel
theorem dX2_threadsFrom_26 : decode cX2_threadsFrom 26 = .ok (.goto (-22), 3) := by decide +kernel
theorem dX2_threadsFrom_29 : decode cX2_threadsFrom 29 = .ok (.iload_n 2, 1) := by decide +kernel
theorem dX2_threadsFrom_30 : decode cX2_threadsFrom 30 = .ok (.ireturn, 1) := by decide +kernel
theorem dX2_holdersOf_0 : decode cX2_holdersOf 0 = .ok (.iconst 0, 1) := by decide +kernel
theorem dX2_holdersOf_1 : decode cX2_holdersOf 1 = .ok (.istore_n 2, 1) := by decide +kernel
theorem dX2_holdersOf_2 : decode cX2_holdersOf 2 = .ok (.iconst 0, 1) := by decide +kernel
theorem dX2_holdersOf_3 : decode cX2_holdersOf 3 = .ok (.istore_n 3, 1) := by decide +kernel
theorem dX2_holdersOf_4 : decode cX2_holdersOf 4 = .ok (.iload_n 3, 1) := by decide +kernel
theorem dX2_holdersOf_5 : decode cX2_holdersOf 5 = .ok (.aload_n 0, 1) := by decide +kernel
theorem dX2_holdersOf_6 : decode cX2_holdersOf 6 = .ok (.getfield 9, 3) := by decide +kernel
theorem dX2_holdersOf_9 : decode cX2_holdersOf 9 = .ok (.arraylength, 1) := by decide +kernel
theorem dX2_holdersOf_10 : decode cX2_holdersOf 10 = .ok (.if_icmp .ge 22, 3) := by decide +kernel
theorem dX2_holdersOf_13 : decode cX2_holdersOf 13 = .ok (.aload_n 0, 1) := by decide +kernel
theorem dX2_holdersOf_14 : decode cX2_holdersOf 14 = .ok (.getfield 9, 3) := by decide +kernel
theorem dX2_holdersOf_17 : decode cX2_holdersOf 17 = .ok (.iload_n 3, 1) := by decide +kernel
theorem dX2_holdersOf_18 : decode cX2_holdersOf 18 = .ok (.iaload, 1) := by decide +kernel
theorem dX2_holdersOf_19 : decode cX2_holdersOf 19 = .ok (.iload_n 1, 1) := by decide +kernel
theorem dX2_holdersOf_20 : decode cX2_holdersOf 20 = .ok (.if_icmp .ne 6, 3) := by decide +kernel
theorem dX2_holdersOf_23 : decode cX2_holdersOf 23 = .ok (.iinc 2 1, 3) := by decide +kernel
theorem dX2_holdersOf_26 : decode cX2_holdersOf 26 = .ok (.iinc 3 1, 3) := by decide +kernel
theorem dX2_holdersOf_29 : decode cX2_holdersOf 29 = .ok (.goto (-25), 3) := by decide +kernel
theorem dX2_holdersOf_32 : decode cX2_holdersOf 32 = .ok (.iconst 0, 1) := by decide +kernel
theorem dX2_holdersOf_33 : decode cX2_holdersOf 33 = .ok (.istore_n 3, 1) := by decide +kernel
theorem dX2_holdersOf_34 : decode cX2_holdersOf 34 = .ok (.iload_n 3, 1) := by decide +kernel
theorem dX2_holdersOf_35 : decode cX2_holdersOf 35 = .ok (.bipush 6, 2) := by decide +kernel
theorem dX2_holdersOf_37 : decode cX2_holdersOf 37 = .ok (.if_icmp .ge 22, 3) := by decide +kernel
theorem dX2_holdersOf_40 : decode cX2_holdersOf 40 = .ok (.aload_n 0, 1) := by decide +kernel
theorem dX2_holdersOf_41 : decode cX2_holdersOf 41 = .ok (.getfield 27, 3) := by decide +kernel
theorem dX2_holdersOf_44 : decode cX2_holdersOf 44 = .ok (.iload_n 3, 1) := by decide +kernel
theorem dX2_holdersOf_45 : decode cX2_holdersOf 45 = .ok (.iaload, 1) := by decide +kernel
theorem dX2_holdersOf_46 : decode cX2_holdersOf 46 = .ok (.iload_n 1, 1) := by decide +kernel
theorem dX2_holdersOf_47 : decode cX2_holdersOf 47 = .ok (.if_icmp .ne 6, 3) := by decide +kernel
theorem dX2_holdersOf_50 : decode cX2_holdersOf 50 = .ok (.iinc 2 1, 3) := by decide +kernel
theorem dX2_holdersOf_53 : decode cX2_holdersOf 53 = .ok (.iinc 3 1, 3) := by decide +kernel
theorem dX2_holdersOf_56 : decode cX2_holdersOf 56 = .ok (.goto (-22), 3) := by decide +kernel
theorem dX2_holdersOf_59 : decode cX2_holdersOf 59 = .ok (.iload_n 2, 1) := by decide +kernel
theorem dX2_holdersOf_60 : decode cX2_holdersOf 60 = .ok (.ireturn, 1) := by decide +kernel
theorem dX2_holdersOfAll_0 : decode cX2_holdersOfAll 0 = .ok (.iconst 0, 1) := by decide +kernel
theorem dX2_holdersOfAll_1 : decode cX2_holdersOfAll 1 = .ok (.istore_n 1, 1) := by decide +kernel
theorem dX2_holdersOfAll_2 : decode cX2_holdersOfAll 2 = .ok (.iconst 0, 1) := by decide +kernel
theorem dX2_holdersOfAll_3 : decode cX2_holdersOfAll 3 = .ok (.istore_n 2, 1) := by decide +kernel
theorem dX2_holdersOfAll_4 : decode cX2_holdersOfAll 4 = .ok (.iload_n 2, 1) := by decide +kernel
theorem dX2_holdersOfAll_5 : decode cX2_holdersOfAll 5 = .ok (.bipush 24, 2) := by decide +kernel
theorem dX2_holdersOfAll_7 : decode cX2_holdersOfAll 7 = .ok (.if_icmp .ge 25, 3) := by decide +kernel
theorem dX2_holdersOfAll_10 : decode cX2_holdersOfAll 10 = .ok (.aload_n 0, 1) := by decide +kernel
theorem dX2_holdersOfAll_11 : decode cX2_holdersOfAll 11 = .ok (.iload_n 2, 1) := by decide +kernel
theorem dX2_holdersOfAll_12 : decode cX2_holdersOfAll 12 = .ok (.invokevirtual 102, 3) := by decide +kernel
theorem dX2_holdersOfAll_15 : decode cX2_holdersOfAll 15 = .ok (.ifCond .eq 11, 3) := by decide +kernel
theorem dX2_holdersOfAll_18 : decode cX2_holdersOfAll 18 = .ok (.iload_n 1, 1) := by decide +kernel
theorem dX2_holdersOfAll_19 : decode cX2_holdersOfAll 19 = .ok (.aload_n 0, 1) := by decide +kernel
theorem dX2_holdersOfAll_20 : decode cX2_holdersOfAll 20 = .ok (.iload_n 2, 1) := by decide +kernel
theorem dX2_holdersOfAll_21 : decode cX2_holdersOfAll 21 = .ok (.invokevirtual 105, 3) := by decide +kernel
theorem dX2_holdersOfAll_24 : decode cX2_holdersOfAll 24 = .ok (.iadd, 1) := by decide +kernel
theorem dX2_holdersOfAll_25 : decode cX2_holdersOfAll 25 = .ok (.istore_n 1, 1) := by decide +kernel
theorem dX2_holdersOfAll_26 : decode cX2_holdersOfAll 26 = .ok (.iinc 2 1, 3) := by decide +kernel
theorem dX2_holdersOfAll_29 : decode cX2_holdersOfAll 29 = .ok (.goto (-25), 3) := by decide +kernel
theorem dX2_holdersOfAll_32 : decode cX2_holdersOfAll 32 = .ok (.iload_n 1, 1) := by decide +kernel
theorem dX2_holdersOfAll_33 : decode cX2_holdersOfAll 33 = .ok (.ireturn, 1) := by decide +kernel
theorem dX2_freedLate_0 : decode cX2_freedLate 0 = .ok (.iload_n 1, 1) := by decide +kernel
theorem dX2_freedLate_1 : decode cX2_freedLate 1 = .ok (.ifCond .lt 17, 3) := by decide +kernel
theorem dX2_freedLate_4 : decode cX2_freedLate 4 = .ok (.iload_n 1, 1) := by decide +kernel
theorem dX2_freedLate_5 : decode cX2_freedLate 5 = .ok (.bipush 12, 2) := by decide +kernel
theorem dX2_freedLate_7 : decode cX2_freedLate 7 = .ok (.if_icmp .ge 11, 3) := by decide +kernel
theorem dX2_freedLate_10 : decode cX2_freedLate 10 = .ok (.iload_n 1, 1) := by decide +kernel
theorem dX2_freedLate_11 : decode cX2_freedLate 11 = .ok (.aload_n 0, 1) := by decide +kernel
theorem dX2_freedLate_12 : decode cX2_freedLate 12 = .ok (.getfield 56, 3) := by decide +kernel
theorem dX2_freedLate_15 : decode cX2_freedLate 15 = .ok (.if_icmp .lt 6, 3) := by decide +kernel
theorem dX2_freedLate_18 : decode cX2_freedLate 18 = .ok (.bipush (-11), 2) := by decide +kernel
theorem dX2_freedLate_20 : decode cX2_freedLate 20 = .ok (.ireturn, 1) := by decide +kernel
theorem dX2_freedLate_21 : decode cX2_freedLate 21 = .ok (.aload_n 0, 1) := by decide +kernel
theorem dX2_freedLate_22 : decode cX2_freedLate 22 = .ok (.getfield 30, 3) := by decide +kernel
theorem dX2_freedLate_25 : decode cX2_freedLate 25 = .ok (.aload_n 0, 1) := by decide +kernel
theorem dX2_freedLate_26 : decode cX2_freedLate 26 = .ok (.getfield 56, 3) := by decide +kernel
theorem dX2_freedLate_29 : decode cX2_freedLate 29 = .ok (.iconst 1, 1) := by decide +kernel
theorem dX2_freedLate_30 : decode cX2_freedLate 30 = .ok (.isub, 1) := by decide +kernel
theorem dX2_freedLate_31 : decode cX2_freedLate 31 = .ok (.iload_n 1, 1) := by decide +kernel
theorem dX2_freedLate_32 : decode cX2_freedLate 32 = .ok (.isub, 1) := by decide +kernel
theorem dX2_freedLate_33 : decode cX2_freedLate 33 = .ok (.bipush 12, 2) := by decide +kernel
theorem dX2_freedLate_35 : decode cX2_freedLate 35 = .ok (.irem, 1) := by decide +kernel
theorem dX2_freedLate_36 : decode cX2_freedLate 36 = .ok (.iaload, 1) := by decide +kernel
theorem dX2_freedLate_37 : decode cX2_freedLate 37 = .ok (.ireturn, 1) := by decide +kernel
theorem dX2_free_0 : decode cX2_free 0 = .ok (.aload_n 0, 1) := by decide +kernel
theorem dX2_free_1 : decode cX2_free 1 = .ok (.iload_n 1, 1) := by decide +kernel
theorem dX2_free_2 : decode cX2_free 2 = .ok (.invokevirtual 102, 3) := by decide +kernel
theorem dX2_free_5 : decode cX2_free 5 = .ok (.ifCond .ne 4, 3) := by decide +kernel
theorem dX2_free_8 : decode cX2_free 8 = .ok (.return_, 1) := by decide +kernel
theorem dX2_free_9 : decode cX2_free 9 = .ok (.aload_n 0, 1) := by decide +kernel
theorem dX2_free_10 : decode cX2_free 10 = .ok (.getfield 21, 3) := by decide +kernel
theorem dX2_free_13 : decode cX2_free 13 = .ok (.iload_n 1, 1) := by decide +kernel
theorem dX2_free_14 : decode cX2_free 14 = .ok (.iconst (-1), 1) := by decide +kernel
theorem dX2_free_15 : decode cX2_free 15 = .ok (.iastore, 1) := by decide +kernel
theorem dX2_free_16 : decode cX2_free 16 = .ok (.aload_n 0, 1) := by decide +kernel
theorem dX2_free_17 : decode cX2_free 17 = .ok (.getfield 18, 3) := by decide +kernel
theorem dX2_free_20 : decode cX2_free 20 = .ok (.iload_n 1, 1) := by decide +kernel
theorem dX2_free_21 : decode cX2_free 21 = .ok (.iconst 0, 1) := by decide +kernel
theorem dX2_free_22 : decode cX2_free 22 = .ok (.iastore, 1) := by decide +kernel
theorem dX2_free_23 : decode cX2_free 23 = .ok (.aload_n 0, 1) := by decide +kernel
theorem dX2_free_24 : decode cX2_free 24 = .ok (.getfield 15, 3) := by decide +kernel
theorem dX2_free_27 : decode cX2_free 27 = .ok (.iload_n 1, 1) := by decide +kernel
theorem dX2_free_28 : decode cX2_free 28 = .ok (.bipush (-15), 2) := by decide +kernel
theorem dX2_free_30 : decode cX2_free 30 = .ok (.iastore, 1) := by decide +kernel
theorem dX2_free_31 : decode cX2_free 31 = .ok (.iconst 0, 1) := by decide +kernel
theorem dX2_free_32 : decode cX2_free 32 = .ok (.istore_n 2, 1) := by decide +kernel
theorem dX2_free_33 : decode cX2_free 33 = .ok (.iload_n 2, 1) := by decide +kernel
theorem dX2_free_34 : decode cX2_free 34 = .ok (.iconst 4, 1) := by decide +kernel
theorem dX2_free_35 : decode cX2_free 35 = .ok (.if_icmp .ge 21, 3) := by decide +kernel
theorem dX2_free_38 : decode cX2_free 38 = .ok (.aload_n 0, 1) := by decide +kernel
theorem dX2_free_39 : decode cX2_free 39 = .ok (.getfield 9, 3) := by decide +kernel
theorem dX2_free_42 : decode cX2_free 42 = .ok (.iload_n 1, 1) := by decide +kernel
theorem dX2_free_43 : decode cX2_free 43 = .ok (.iconst 4, 1) := by decide +kernel
theorem dX2_free_44 : decode cX2_free 44 = .ok (.imul, 1) := by decide +kernel
theorem dX2_free_45 : decode cX2_free 45 = .ok (.iload_n 2, 1) := by decide +kernel
theorem dX2_free_46 : decode cX2_free 46 = .ok (.iadd, 1) := by decide +kernel
theorem dX2_free_47 : decode cX2_free 47 = .ok (.bipush (-15), 2) := by decide +kernel
theorem dX2_free_49 : decode cX2_free 49 = .ok (.iastore, 1) := by decide +kernel
theorem dX2_free_50 : decode cX2_free 50 = .ok (.iinc 2 1, 3) := by decide +kernel
theorem dX2_free_53 : decode cX2_free 53 = .ok (.goto (-20), 3) := by decide +kernel
theorem dX2_free_56 : decode cX2_free 56 = .ok (.iconst 0, 1) := by decide +kernel
theorem dX2_free_57 : decode cX2_free 57 = .ok (.istore_n 2, 1) := by decide +kernel
theorem dX2_free_58 : decode cX2_free 58 = .ok (.iload_n 2, 1) := by decide +kernel
theorem dX2_free_59 : decode cX2_free 59 = .ok (.aload_n 0, 1) := by decide +kernel
theorem dX2_free_60 : decode cX2_free 60 = .ok (.getfield 9, 3) := by decide +kernel
theorem dX2_free_63 : decode cX2_free 63 = .ok (.arraylength, 1) := by decide +kernel
theorem dX2_free_64 : decode cX2_free 64 = .ok (.if_icmp .ge 27, 3) := by decide +kernel
theorem dX2_free_67 : decode cX2_free 67 = .ok (.aload_n 0, 1) := by decide +kernel
theorem dX2_free_68 : decode cX2_free 68 = .ok (.getfield 9, 3) := by decide +kernel
theorem dX2_free_71 : decode cX2_free 71 = .ok (.iload_n 2, 1) := by decide +kernel
theorem dX2_free_72 : decode cX2_free 72 = .ok (.iaload, 1) := by decide +kernel
theorem dX2_free_73 : decode cX2_free 73 = .ok (.iload_n 1, 1) := by decide +kernel
theorem dX2_free_74 : decode cX2_free 74 = .ok (.if_icmp .ne 11, 3) := by decide +kernel
theorem dX2_free_77 : decode cX2_free 77 = .ok (.aload_n 0, 1) := by decide +kernel
theorem dX2_free_78 : decode cX2_free 78 = .ok (.getfield 9, 3) := by decide +kernel
theorem dX2_free_81 : decode cX2_free 81 = .ok (.iload_n 2, 1) := by decide +kernel
theorem dX2_free_82 : decode cX2_free 82 = .ok (.bipush (-15), 2) := by decide +kernel
theorem dX2_free_84 : decode cX2_free 84 = .ok (.iastore, 1) := by decide +kernel
theorem dX2_free_85 : decode cX2_free 85 = .ok (.iinc 2 1, 3) := by decide +kernel
theorem dX2_free_88 : decode cX2_free 88 = .ok (.goto (-30), 3) := by decide +kernel
theorem dX2_free_91 : decode cX2_free 91 = .ok (.aload_n 0, 1) := by decide +kernel
theorem dX2_free_92 : decode cX2_free 92 = .ok (.getfield 30, 3) := by decide +kernel
theorem dX2_free_95 : decode cX2_free 95 = .ok (.aload_n 0, 1) := by decide +kernel
theorem dX2_free_96 : decode cX2_free 96 = .ok (.getfield 56, 3) := by decide +kernel
theorem dX2_free_99 : decode cX2_free 99 = .ok (.bipush 12, 2) := by decide +kernel
theorem dX2_free_101 : decode cX2_free 101 = .ok (.irem, 1) := by decide +kernel
theorem dX2_free_102 : decode cX2_free 102 = .ok (.iload_n 1, 1) := by decide +kernel
theorem dX2_free_103 : decode cX2_free 103 = .ok (.iastore, 1) := by decide +kernel
theorem dX2_free_104 : decode cX2_free 104 = .ok (.aload_n 0, 1) := by decide +kernel
theorem dX2_free_105 : decode cX2_free 105 = .ok (.dup, 1) := by decide +kernel
theorem dX2_free_106 : decode cX2_free 106 = .ok (.getfield 56, 3) := by decide +kernel
theorem dX2_free_109 : decode cX2_free 109 = .ok (.iconst 1, 1) := by decide +kernel
theorem dX2_free_110 : decode cX2_free 110 = .ok (.iadd, 1) := by decide +kernel
theorem dX2_free_111 : decode cX2_free 111 = .ok (.putfield 56, 3) := by decide +kernel
theorem dX2_free_114 : decode cX2_free 114 = .ok (.return_, 1) := by decide +kernel
theorem dX2_areUrns_0 : decode cX2_areUrns 0 = .ok (.aload_n 1, 1) := by decide +kernel
theorem dX2_areUrns_1 : decode cX2_areUrns 1 = .ok (.astore_n 2, 1) := by decide +kernel
theorem dX2_areUrns_2 : decode cX2_areUrns 2 = .ok (.aload_n 2, 1) := by decide +kernel
theorem dX2_areUrns_3 : decode cX2_areUrns 3 = .ok (.arraylength, 1) := by decide +kernel
theorem dX2_areUrns_4 : decode cX2_areUrns 4 = .ok (.istore_n 3, 1) := by decide +kernel
theorem dX2_areUrns_5 : decode cX2_areUrns 5 = .ok (.iconst 0, 1) := by decide +kernel
theorem dX2_areUrns_6 : decode cX2_areUrns 6 = .ok (.istore 4, 2) := by decide +kernel
theorem dX2_areUrns_8 : decode cX2_areUrns 8 = .ok (.iload 4, 2) := by decide +kernel
theorem dX2_areUrns_10 : decode cX2_areUrns 10 = .ok (.iload_n 3, 1) := by decide +kernel
theorem dX2_areUrns_11 : decode cX2_areUrns 11 = .ok (.if_icmp .ge 33, 3) := by decide +kernel
theorem dX2_areUrns_14 : decode cX2_areUrns 14 = .ok (.aload_n 2, 1) := by decide +kernel
theorem dX2_areUrns_15 : decode cX2_areUrns 15 = .ok (.iload 4, 2) := by decide +kernel
theorem dX2_areUrns_17 : decode cX2_areUrns 17 = .ok (.iaload, 1) := by decide +kernel
theorem dX2_areUrns_18 : decode cX2_areUrns 18 = .ok (.istore 5, 2) := by decide +kernel
theorem dX2_areUrns_20 : decode cX2_areUrns 20 = .ok (.iload 5, 2) := by decide +kernel
theorem dX2_areUrns_22 : decode cX2_areUrns 22 = .ok (.bipush (-15), 2) := by decide +kernel
theorem dX2_areUrns_24 : decode cX2_areUrns 24 = .ok (.if_icmp .eq 14, 3) := by decide +kernel
theorem dX2_areUrns_27 : decode cX2_areUrns 27 = .ok (.aload_n 0, 1) := by decide +kernel
theorem dX2_areUrns_28 : decode cX2_areUrns 28 = .ok (.iload 5, 2) := by decide +kernel
theorem dX2_areUrns_30 : decode cX2_areUrns 30 = .ok (.invokevirtual 102, 3) := by decide +kernel
theorem dX2_areUrns_33 : decode cX2_areUrns 33 = .ok (.ifCond .ne 5, 3) := by decide +kernel
theorem dX2_areUrns_36 : decode cX2_areUrns 36 = .ok (.iconst 0, 1) := by decide +kernel
theorem dX2_areUrns_37 : decode cX2_areUrns 37 = .ok (.ireturn, 1) := by decide +kernel
theorem dX2_areUrns_38 : decode cX2_areUrns 38 = .ok (.iinc 4 1, 3) := by decide +kernel
theorem dX2_areUrns_41 : decode cX2_areUrns 41 = .ok (.goto (-33), 3) := by decide +kernel
theorem dX2_areUrns_44 : decode cX2_areUrns 44 = .ok (.iconst 1, 1) := by decide +kernel
theorem dX2_areUrns_45 : decode cX2_areUrns 45 = .ok (.ireturn, 1) := by decide +kernel
theorem dX2_hasBlackToWhite_0 : decode cX2_hasBlackToWhite 0 = .ok (.iconst 0, 1) := by decide +kernel
theorem dX2_hasBlackToWhite_1 : decode cX2_hasBlackToWhite 1 = .ok (.istore_n 1, 1) := by decide +kernel
theorem dX2_hasBlackToWhite_2 : decode cX2_hasBlackToWhite 2 = .ok (.iload_n 1, 1) := by decide +kernel
theorem dX2_hasBlackToWhite_3 : decode cX2_hasBlackToWhite 3 = .ok (.aload_n 0, 1) := by decide +kernel
theorem dX2_hasBlackToWhite_4 : decode cX2_hasBlackToWhite 4 = .ok (.getfield 9, 3) := by decide +kernel
theorem dX2_hasBlackToWhite_7 : decode cX2_hasBlackToWhite 7 = .ok (.arraylength, 1) := by decide +kernel
theorem dX2_hasBlackToWhite_8 : decode cX2_hasBlackToWhite 8 = .ok (.if_icmp .ge 36, 3) := by decide +kernel
theorem dX2_hasBlackToWhite_11 : decode cX2_hasBlackToWhite 11 = .ok (.aload_n 0, 1) := by decide +kernel
theorem dX2_hasBlackToWhite_12 : decode cX2_hasBlackToWhite 12 = .ok (.getfield 21, 3) := by decide +kernel
theorem dX2_hasBlackToWhite_15 : decode cX2_hasBlackToWhite 15 = .ok (.iload_n 1, 1) := by decide +kernel
theorem dX2_hasBlackToWhite_16 : decode cX2_hasBlackToWhite 16 = .ok (.iconst 4, 1) := by decide +kernel
theorem dX2_hasBlackToWhite_17 : decode cX2_hasBlackToWhite 17 = .ok (.idiv, 1) := by decide +kernel
theorem dX2_hasBlackToWhite_18 : decode cX2_hasBlackToWhite 18 = .ok (.iaload, 1) := by decide +kernel
theorem dX2_hasBlackToWhite_19 : decode cX2_hasBlackToWhite 19 = .ok (.iconst 2, 1) := by decide +kernel
theorem dX2_hasBlackToWhite_20 : decode cX2_hasBlackToWhite 20 = .ok (.if_icmp .ne 18, 3) := by decide +kernel
theorem dX2_hasBlackToWhite_23 : decode cX2_hasBlackToWhite 23 = .ok (.aload_n 0, 1) := by decide +kernel
theorem dX2_hasBlackToWhite_24 : decode cX2_hasBlackToWhite 24 = .ok (.aload_n 0, 1) := by decide +kernel
theorem dX2_hasBlackToWhite_25 : decode cX2_hasBlackToWhite 25 = .ok (.getfield 9, 3) := by decide +kernel
theorem dX2_hasBlackToWhite_28 : decode cX2_hasBlackToWhite 28 = .ok (.iload_n 1, 1) := by decide +kernel
theorem dX2_hasBlackToWhite_29 : decode cX2_hasBlackToWhite 29 = .ok (.iaload, 1) := by decide +kernel
theorem dX2_hasBlackToWhite_30 : decode cX2_hasBlackToWhite 30 = .ok (.invokevirtual 84, 3) := by decide +kernel
theorem dX2_hasBlackToWhite_33 : decode cX2_hasBlackToWhite 33 = .ok (.ifCond .eq 5, 3) := by decide +kernel
theorem dX2_hasBlackToWhite_36 : decode cX2_hasBlackToWhite 36 = .ok (.iconst 1, 1) := by decide +kernel
theorem dX2_hasBlackToWhite_37 : decode cX2_hasBlackToWhite 37 = .ok (.ireturn, 1) := by decide +kernel
theorem dX2_hasBlackToWhite_38 : decode cX2_hasBlackToWhite 38 = .ok (.iinc 1 1, 3) := by decide +kernel
theorem dX2_hasBlackToWhite_41 : decode cX2_hasBlackToWhite 41 = .ok (.goto (-39), 3) := by decide +kernel
theorem dX2_hasBlackToWhite_44 : decode cX2_hasBlackToWhite 44 = .ok (.iconst 0, 1) := by decide +kernel
theorem dX2_hasBlackToWhite_45 : decode cX2_hasBlackToWhite 45 = .ok (.ireturn, 1) := by decide +kernel
theorem dX2_isSound_0 : decode cX2_isSound 0 = .ok (.aload_n 0, 1) := by decide +kernel
theorem dX2_isSound_1 : decode cX2_isSound 1 = .ok (.getfield 53, 3) := by decide +kernel
theorem dX2_isSound_4 : decode cX2_isSound 4 = .ok (.aload_n 0, 1) := by decide +kernel
theorem dX2_isSound_5 : decode cX2_isSound 5 = .ok (.invokevirtual 115, 3) := by decide +kernel
theorem dX2_isSound_8 : decode cX2_isSound 8 = .ok (.aload_n 0, 1) := by decide +kernel
theorem dX2_isSound_9 : decode cX2_isSound 9 = .ok (.getfield 56, 3) := by decide +kernel
theorem dX2_isSound_12 : decode cX2_isSound 12 = .ok (.iadd, 1) := by decide +kernel
theorem dX2_isSound_13 : decode cX2_isSound 13 = .ok (.if_icmp .ne 55, 3) := by decide +kernel
theorem dX2_isSound_16 : decode cX2_isSound 16 = .ok (.aload_n 0, 1) := by decide +kernel
theorem dX2_isSound_17 : decode cX2_isSound 17 = .ok (.aload_n 0, 1) := by decide +kernel
theorem dX2_isSound_18 : decode cX2_isSound 18 = .ok (.getfield 9, 3) := by decide +kernel
theorem dX2_isSound_21 : decode cX2_isSound 21 = .ok (.invokevirtual 119, 3) := by decide +kernel
theorem dX2_isSound_24 : decode cX2_isSound 24 = .ok (.ifCond .eq 44, 3) := by decide +kernel
theorem dX2_isSound_27 : decode cX2_isSound 27 = .ok (.aload_n 0, 1) := by decide +kernel
theorem dX2_isSound_28 : decode cX2_isSound 28 = .ok (.aload_n 0, 1) := by decide +kernel
theorem dX2_isSound_29 : decode cX2_isSound 29 = .ok (.getfield 15, 3) := by decide +kernel
theorem dX2_isSound_32 : decode cX2_isSound 32 = .ok (.invokevirtual 119, 3) := by decide +kernel
theorem dX2_isSound_35 : decode cX2_isSound 35 = .ok (.ifCond .eq 33, 3) := by decide +kernel
theorem dX2_isSound_38 : decode cX2_isSound 38 = .ok (.aload_n 0, 1) := by decide +kernel
theorem dX2_isSound_39 : decode cX2_isSound 39 = .ok (.aload_n 0, 1) := by decide +kernel
theorem dX2_isSound_40 : decode cX2_isSound 40 = .ok (.getfield 27, 3) := by decide +kernel
theorem dX2_isSound_43 : decode cX2_isSound 43 = .ok (.invokevirtual 119, 3) := by decide +kernel
theorem dX2_isSound_46 : decode cX2_isSound 46 = .ok (.ifCond .eq 22, 3) := by decide +kernel
theorem dX2_isSound_49 : decode cX2_isSound 49 = .ok (.aload_n 0, 1) := by decide +kernel
theorem dX2_isSound_50 : decode cX2_isSound 50 = .ok (.getfield 43, 3) := by decide +kernel
theorem dX2_isSound_53 : decode cX2_isSound 53 = .ok (.iconst 1, 1) := by decide +kernel
theorem dX2_isSound_54 : decode cX2_isSound 54 = .ok (.if_icmp .ne 10, 3) := by decide +kernel
theorem dX2_isSound_57 : decode cX2_isSound 57 = .ok (.aload_n 0, 1) := by decide +kernel
theorem dX2_isSound_58 : decode cX2_isSound 58 = .ok (.invokevirtual 123, 3) := by decide +kernel
theorem dX2_isSound_61 : decode cX2_isSound 61 = .ok (.ifCond .ne 7, 3) := by decide +kernel
theorem dX2_isSound_64 : decode cX2_isSound 64 = .ok (.iconst 1, 1) := by decide +kernel
theorem dX2_isSound_65 : decode cX2_isSound 65 = .ok (.goto 4, 3) := by decide +kernel
theorem dX2_isSound_68 : decode cX2_isSound 68 = .ok (.iconst 0, 1) := by decide +kernel
theorem dX2_isSound_69 : decode cX2_isSound 69 = .ok (.ireturn, 1) := by decide +kernel
theorem dX3_isRefusal_0 : decode cX3_isRefusal 0 = .ok (.iload_n 0, 1) := by decide +kernel
theorem dX3_isRefusal_1 : decode cX3_isRefusal 1 = .ok (.bipush (-11), 2) := by decide +kernel
theorem dX3_isRefusal_3 : decode cX3_isRefusal 3 = .ok (.if_icmp .eq 15, 3) := by decide +kernel
theorem dX3_isRefusal_6 : decode cX3_isRefusal 6 = .ok (.iload_n 0, 1) := by decide +kernel
theorem dX3_isRefusal_7 : decode cX3_isRefusal 7 = .ok (.bipush (-12), 2) := by decide +kernel
theorem dX3_isRefusal_9 : decode cX3_isRefusal 9 = .ok (.if_icmp .eq 9, 3) := by decide +kernel
theorem dX3_isRefusal_12 : decode cX3_isRefusal 12 = .ok (.iload_n 0, 1) := by decide +kernel
theorem dX3_isRefusal_13 : decode cX3_isRefusal 13 = .ok (.bipush (-14), 2) := by decide +kernel
theorem dX3_isRefusal_15 : decode cX3_isRefusal 15 = .ok (.if_icmp .ne 7, 3) := by decide +kernel
theorem dX3_isRefusal_18 : decode cX3_isRefusal 18 = .ok (.iconst 1, 1) := by decide +kernel
theorem dX3_isRefusal_19 : decode cX3_isRefusal 19 = .ok (.goto 4, 3) := by decide +kernel
theorem dX3_isRefusal_22 : decode cX3_isRefusal 22 = .ok (.iconst 0, 1) := by decide +kernel
theorem dX3_isRefusal_23 : decode cX3_isRefusal 23 = .ok (.ireturn, 1) := by decide +kernel
theorem dX9_copyFrom_0 : decode cX9_copyFrom 0 = .ok (.aload_n 1, 1) := by decide +kernel
theorem dX9_copyFrom_1 : decode cX9_copyFrom 1 = .ok (.getfield 9, 3) := by decide +kernel
theorem dX9_copyFrom_4 : decode cX9_copyFrom 4 = .ok (.iconst 0, 1) := by decide +kernel
theorem dX9_copyFrom_5 : decode cX9_copyFrom 5 = .ok (.aload_n 0, 1) := by decide +kernel
theorem dX9_copyFrom_6 : decode cX9_copyFrom 6 = .ok (.getfield 9, 3) := by decide +kernel
theorem dX9_copyFrom_9 : decode cX9_copyFrom 9 = .ok (.iconst 0, 1) := by decide +kernel
theorem dX9_copyFrom_10 : decode cX9_copyFrom 10 = .ok (.bipush 24, 2) := by decide +kernel
theorem dX9_copyFrom_12 : decode cX9_copyFrom 12 = .ok (.invokestatic 19, 3) := by decide +kernel
theorem dX9_copyFrom_15 : decode cX9_copyFrom 15 = .ok (.aload_n 0, 1) := by decide +kernel
theorem dX9_copyFrom_16 : decode cX9_copyFrom 16 = .ok (.aload_n 1, 1) := by decide +kernel
theorem dX9_copyFrom_17 : decode cX9_copyFrom 17 = .ok (.getfield 15, 3) := by decide +kernel
theorem dX9_copyFrom_20 : decode cX9_copyFrom 20 = .ok (.putfield 15, 3) := by decide +kernel
theorem dX9_copyFrom_23 : decode cX9_copyFrom 23 = .ok (.return_, 1) := by decide +kernel
theorem dX2_copyFrom_0 : decode cX2_copyFrom 0 = .ok (.aload_n 1, 1) := by decide +kernel
theorem dX2_copyFrom_1 : decode cX2_copyFrom 1 = .ok (.getfield 9, 3) := by decide +kernel
theorem dX2_copyFrom_4 : decode cX2_copyFrom 4 = .ok (.iconst 0, 1) := by decide +kernel
theorem dX2_copyFrom_5 : decode cX2_copyFrom 5 = .ok (.aload_n 0, 1) := by decide +kernel
theorem dX2_copyFrom_6 : decode cX2_copyFrom 6 = .ok (.getfield 9, 3) := by decide +kernel
theorem dX2_copyFrom_9 : decode cX2_copyFrom 9 = .ok (.iconst 0, 1) := by decide +kernel
theorem dX2_copyFrom_10 : decode cX2_copyFrom 10 = .ok (.bipush 96, 2) := by decide +kernel
theorem dX2_copyFrom_12 : decode cX2_copyFrom 12 = .ok (.invokestatic 74, 3) := by decide +kernel
theorem dX2_copyFrom_15 : decode cX2_copyFrom 15 = .ok (.aload_n 1, 1) := by decide +kernel
theorem dX2_copyFrom_16 : decode cX2_copyFrom 16 = .ok (.getfield 15, 3) := by decide +kernel
theorem dX2_copyFrom_19 : decode cX2_copyFrom 19 = .ok (.iconst 0, 1) := by decide +kernel
theorem dX2_copyFrom_20 : decode cX2_copyFrom 20 = .ok (.aload_n 0, 1) := by decide +kernel
theorem dX2_copyFrom_21 : decode cX2_copyFrom 21 = .ok (.getfield 15, 3) := by decide +kernel
theorem dX2_copyFrom_24 : decode cX2_copyFrom 24 = .ok (.iconst 0, 1) := by decide +kernel
theorem dX2_copyFrom_25 : decode cX2_copyFrom 25 = .ok (.bipush 24, 2) := by decide +kernel
theorem dX2_copyFrom_27 : decode cX2_copyFrom 27 = .ok (.invokestatic 74, 3) := by decide +kernel
theorem dX2_copyFrom_30 : decode cX2_copyFrom 30 = .ok (.aload_n 1, 1) := by decide +kernel
theorem dX2_copyFrom_31 : decode cX2_copyFrom 31 = .ok (.getfield 18, 3) := by decide +kernel
theorem dX2_copyFrom_34 : decode cX2_copyFrom 34 = .ok (.iconst 0, 1) := by decide +kernel
theorem dX2_copyFrom_35 : decode cX2_copyFrom 35 = .ok (.aload_n 0, 1) := by decide +kernel
theorem dX2_copyFrom_36 : decode cX2_copyFrom 36 = .ok (.getfield 18, 3) := by decide +kernel
theorem dX2_copyFrom_39 : decode cX2_copyFrom 39 = .ok (.iconst 0, 1) := by decide +kernel
theorem dX2_copyFrom_40 : decode cX2_copyFrom 40 = .ok (.bipush 24, 2) := by decide +kernel
theorem dX2_copyFrom_42 : decode cX2_copyFrom 42 = .ok (.invokestatic 74, 3) := by decide +kernel
theorem dX2_copyFrom_45 : decode cX2_copyFrom 45 = .ok (.aload_n 1, 1) := by decide +kernel
theorem dX2_copyFrom_46 : decode cX2_copyFrom 46 = .ok (.getfield 21, 3) := by decide +kernel
theorem dX2_copyFrom_49 : decode cX2_copyFrom 49 = .ok (.iconst 0, 1) := by decide +kernel
theorem dX2_copyFrom_50 : decode cX2_copyFrom 50 = .ok (.aload_n 0, 1) := by decide +kernel
theorem dX2_copyFrom_51 : decode cX2_copyFrom 51 = .ok (.getfield 21, 3) := by decide +kernel
theorem dX2_copyFrom_54 : decode cX2_copyFrom 54 = .ok (.iconst 0, 1) := by decide +kernel
theorem dX2_copyFrom_55 : decode cX2_copyFrom 55 = .ok (.bipush 24, 2) := by decide +kernel
theorem dX2_copyFrom_57 : decode cX2_copyFrom 57 = .ok (.invokestatic 74, 3) := by decide +kernel
theorem dX2_copyFrom_60 : decode cX2_copyFrom 60 = .ok (.aload_n 1, 1) := by decide +kernel
theorem dX2_copyFrom_61 : decode cX2_copyFrom 61 = .ok (.getfield 24, 3) := by decide +kernel
theorem dX2_copyFrom_64 : decode cX2_copyFrom 64 = .ok (.iconst 0, 1) := by decide +kernel
theorem dX2_copyFrom_65 : decode cX2_copyFrom 65 = .ok (.aload_n 0, 1) := by decide +kernel
theorem dX2_copyFrom_66 : decode cX2_copyFrom 66 = .ok (.getfield 24, 3) := by decide +kernel
theorem dX2_copyFrom_69 : decode cX2_copyFrom 69 = .ok (.iconst 0, 1) := by decide +kernel
theorem dX2_copyFrom_70 : decode cX2_copyFrom 70 = .ok (.bipush 24, 2) := by decide +kernel
theorem dX2_copyFrom_72 : decode cX2_copyFrom 72 = .ok (.invokestatic 74, 3) := by decide +kernel
theorem dX2_copyFrom_75 : decode cX2_copyFrom 75 = .ok (.aload_n 1, 1) := by decide +kernel
theorem dX2_copyFrom_76 : decode cX2_copyFrom 76 = .ok (.getfield 27, 3) := by decide +kernel
theorem dX2_copyFrom_79 : decode cX2_copyFrom 79 = .ok (.iconst 0, 1) := by decide +kernel
theorem dX2_copyFrom_80 : decode cX2_copyFrom 80 = .ok (.aload_n 0, 1) := by decide +kernel
theorem dX2_copyFrom_81 : decode cX2_copyFrom 81 = .ok (.getfield 27, 3) := by decide +kernel
theorem dX2_copyFrom_84 : decode cX2_copyFrom 84 = .ok (.iconst 0, 1) := by decide +kernel
theorem dX2_copyFrom_85 : decode cX2_copyFrom 85 = .ok (.bipush 6, 2) := by decide +kernel
theorem dX2_copyFrom_87 : decode cX2_copyFrom 87 = .ok (.invokestatic 74, 3) := by decide +kernel
theorem dX2_copyFrom_90 : decode cX2_copyFrom 90 = .ok (.aload_n 1, 1) := by decide +kernel
theorem dX2_copyFrom_91 : decode cX2_copyFrom 91 = .ok (.getfield 30, 3) := by decide +kernel
theorem dX2_copyFrom_94 : decode cX2_copyFrom 94 = .ok (.iconst 0, 1) := by decide +kernel
theorem dX2_copyFrom_95 : decode cX2_copyFrom 95 = .ok (.aload_n 0, 1) := by decide +kernel
theorem dX2_copyFrom_96 : decode cX2_copyFrom 96 = .ok (.getfield 30, 3) := by decide +kernel
theorem dX2_copyFrom_99 : decode cX2_copyFrom 99 = .ok (.iconst 0, 1) := by decide +kernel
theorem dX2_copyFrom_100 : decode cX2_copyFrom 100 = .ok (.bipush 12, 2) := by decide +kernel
theorem dX2_copyFrom_102 : decode cX2_copyFrom 102 = .ok (.invokestatic 74, 3) := by decide +kernel
theorem dX2_copyFrom_105 : decode cX2_copyFrom 105 = .ok (.aload_n 0, 1) := by decide +kernel
theorem dX2_copyFrom_106 : decode cX2_copyFrom 106 = .ok (.getfield 36, 3) := by decide +kernel
theorem dX2_copyFrom_109 : decode cX2_copyFrom 109 = .ok (.aload_n 1, 1) := by decide +kernel
theorem dX2_copyFrom_110 : decode cX2_copyFrom 110 = .ok (.getfield 36, 3) := by decide +kernel
theorem dX2_copyFrom_113 : decode cX2_copyFrom 113 = .ok (.invokevirtual 80, 3) := by decide +kernel
theorem dX2_copyFrom_116 : decode cX2_copyFrom 116 = .ok (.aload_n 0, 1) := by decide +kernel
theorem dX2_copyFrom_117 : decode cX2_copyFrom 117 = .ok (.getfield 40, 3) := by decide +kernel
theorem dX2_copyFrom_120 : decode cX2_copyFrom 120 = .ok (.aload_n 1, 1) := by decide +kernel
theorem dX2_copyFrom_121 : decode cX2_copyFrom 121 = .ok (.getfield 40, 3) := by decide +kernel
theorem dX2_copyFrom_124 : decode cX2_copyFrom 124 = .ok (.invokevirtual 80, 3) := by decide +kernel
theorem dX2_copyFrom_127 : decode cX2_copyFrom 127 = .ok (.aload_n 0, 1) := by decide +kernel
theorem dX2_copyFrom_128 : decode cX2_copyFrom 128 = .ok (.aload_n 1, 1) := by decide +kernel
theorem dX2_copyFrom_129 : decode cX2_copyFrom 129 = .ok (.getfield 43, 3) := by decide +kernel
theorem dX2_copyFrom_132 : decode cX2_copyFrom 132 = .ok (.putfield 43, 3) := by decide +kernel
theorem dX2_copyFrom_135 : decode cX2_copyFrom 135 = .ok (.aload_n 0, 1) := by decide +kernel
theorem dX2_copyFrom_136 : decode cX2_copyFrom 136 = .ok (.aload_n 1, 1) := by decide +kernel
theorem dX2_copyFrom_137 : decode cX2_copyFrom 137 = .ok (.getfield 47, 3) := by decide +kernel
theorem dX2_copyFrom_140 : decode cX2_copyFrom 140 = .ok (.putfield 47, 3) := by decide +kernel
theorem dX2_copyFrom_143 : decode cX2_copyFrom 143 = .ok (.aload_n 0, 1) := by decide +kernel
theorem dX2_copyFrom_144 : decode cX2_copyFrom 144 = .ok (.aload_n 1, 1) := by decide +kernel
theorem dX2_copyFrom_145 : decode cX2_copyFrom 145 = .ok (.getfield 50, 3) := by decide +kernel
theorem dX2_copyFrom_148 : decode cX2_copyFrom 148 = .ok (.putfield 50, 3) := by decide +kernel
theorem dX2_copyFrom_151 : decode cX2_copyFrom 151 = .ok (.aload_n 0, 1) := by decide +kernel
theorem dX2_copyFrom_152 : decode cX2_copyFrom 152 = .ok (.aload_n 1, 1) := by decide +kernel
theorem dX2_copyFrom_153 : decode cX2_copyFrom 153 = .ok (.getfield 53, 3) := by decide +kernel
theorem dX2_copyFrom_156 : decode cX2_copyFrom 156 = .ok (.putfield 53, 3) := by decide +kernel
theorem dX2_copyFrom_159 : decode cX2_copyFrom 159 = .ok (.aload_n 0, 1) := by decide +kernel
theorem dX2_copyFrom_160 : decode cX2_copyFrom 160 = .ok (.aload_n 1, 1) := by decide +kernel
theorem dX2_copyFrom_161 : decode cX2_copyFrom 161 = .ok (.getfield 56, 3) := by decide +kernel
theorem dX2_copyFrom_164 : decode cX2_copyFrom 164 = .ok (.putfield 56, 3) := by decide +kernel
theorem dX2_copyFrom_167 : decode cX2_copyFrom 167 = .ok (.aload_n 0, 1) := by decide +kernel
theorem dX2_copyFrom_168 : decode cX2_copyFrom 168 = .ok (.aload_n 1, 1) := by decide +kernel
theorem dX2_copyFrom_169 : decode cX2_copyFrom 169 = .ok (.getfield 59, 3) := by decide +kernel
theorem dX2_copyFrom_172 : decode cX2_copyFrom 172 = .ok (.putfield 59, 3) := by decide +kernel
theorem dX2_copyFrom_175 : decode cX2_copyFrom 175 = .ok (.aload_n 0, 1) := by decide +kernel
theorem dX2_copyFrom_176 : decode cX2_copyFrom 176 = .ok (.aload_n 1, 1) := by decide +kernel
theorem dX2_copyFrom_177 : decode cX2_copyFrom 177 = .ok (.getfield 62, 3) := by decide +kernel
theorem dX2_copyFrom_180 : decode cX2_copyFrom 180 = .ok (.putfield 62, 3) := by decide +kernel
theorem dX2_copyFrom_183 : decode cX2_copyFrom 183 = .ok (.aload_n 0, 1) := by decide +kernel
theorem dX2_copyFrom_184 : decode cX2_copyFrom 184 = .ok (.aload_n 1, 1) := by decide +kernel
theorem dX2_copyFrom_185 : decode cX2_copyFrom 185 = .ok (.getfield 65, 3) := by decide +kernel
theorem dX2_copyFrom_188 : decode cX2_copyFrom 188 = .ok (.putfield 65, 3) := by decide +kernel
theorem dX2_copyFrom_191 : decode cX2_copyFrom 191 = .ok (.return_, 1) := by decide +kernel
theorem dX3_keepBefore_0 : decode cX3_keepBefore 0 = .ok (.aload_n 0, 1) := by decide +kernel
theorem dX3_keepBefore_1 : decode cX3_keepBefore 1 = .ok (.getfield 11, 3) := by decide +kernel
theorem dX3_keepBefore_4 : decode cX3_keepBefore 4 = .ok (.aload_n 0, 1) := by decide +kernel
theorem dX3_keepBefore_5 : decode cX3_keepBefore 5 = .ok (.getfield 26, 3) := by decide +kernel
theorem dX3_keepBefore_8 : decode cX3_keepBefore 8 = .ok (.aaload, 1) := by decide +kernel
theorem dX3_keepBefore_9 : decode cX3_keepBefore 9 = .ok (.astore_n 1, 1) := by decide +kernel
theorem dX3_keepBefore_10 : decode cX3_keepBefore 10 = .ok (.aload_n 1, 1) := by decide +kernel
theorem dX3_keepBefore_11 : decode cX3_keepBefore 11 = .ok (.ifnull 11, 3) := by decide +kernel
theorem dX3_keepBefore_14 : decode cX3_keepBefore 14 = .ok (.aload_n 1, 1) := by decide +kernel
theorem dX3_keepBefore_15 : decode cX3_keepBefore 15 = .ok (.aload_n 0, 1) := by decide +kernel
theorem dX3_keepBefore_16 : decode cX3_keepBefore 16 = .ok (.getfield 33, 3) := by decide +kernel
theorem dX3_keepBefore_19 : decode cX3_keepBefore 19 = .ok (.invokevirtual 36, 3) := by decide +kernel
theorem dX3_keepBefore_22 : decode cX3_keepBefore 22 = .ok (.return_, 1) := by decide +kernel
theorem dX3_takeBack_0 : decode cX3_takeBack 0 = .ok (.aload_n 0, 1) := by decide +kernel
theorem dX3_takeBack_1 : decode cX3_takeBack 1 = .ok (.getfield 11, 3) := by decide +kernel
theorem dX3_takeBack_4 : decode cX3_takeBack 4 = .ok (.aload_n 0, 1) := by decide +kernel
theorem dX3_takeBack_5 : decode cX3_takeBack 5 = .ok (.getfield 26, 3) := by decide +kernel
theorem dX3_takeBack_8 : decode cX3_takeBack 8 = .ok (.aaload, 1) := by decide +kernel
theorem dX3_takeBack_9 : decode cX3_takeBack 9 = .ok (.astore_n 1, 1) := by decide +kernel
theorem dX3_takeBack_10 : decode cX3_takeBack 10 = .ok (.aload_n 1, 1) := by decide +kernel
theorem dX3_takeBack_11 : decode cX3_takeBack 11 = .ok (.ifnull 11, 3) := by decide +kernel
theorem dX3_takeBack_14 : decode cX3_takeBack 14 = .ok (.aload_n 0, 1) := by decide +kernel
theorem dX3_takeBack_15 : decode cX3_takeBack 15 = .ok (.getfield 33, 3) := by decide +kernel
theorem dX3_takeBack_18 : decode cX3_takeBack 18 = .ok (.aload_n 1, 1) := by decide +kernel
theorem dX3_takeBack_19 : decode cX3_takeBack 19 = .ok (.invokevirtual 36, 3) := by decide +kernel
theorem dX3_takeBack_22 : decode cX3_takeBack 22 = .ok (.return_, 1) := by decide +kernel
theorem dX3_settle_0 : decode cX3_settle 0 = .ok (.iload_n 1, 1) := by decide +kernel
theorem dX3_settle_1 : decode cX3_settle 1 = .ok (.invokestatic 40, 3) := by decide +kernel
theorem dX3_settle_4 : decode cX3_settle 4 = .ok (.ifCond .ne 41, 3) := by decide +kernel
theorem dX3_settle_7 : decode cX3_settle 7 = .ok (.aload_n 0, 1) := by decide +kernel
theorem dX3_settle_8 : decode cX3_settle 8 = .ok (.aload_n 0, 1) := by decide +kernel
theorem dX3_settle_9 : decode cX3_settle 9 = .ok (.getfield 26, 3) := by decide +kernel
theorem dX3_settle_12 : decode cX3_settle 12 = .ok (.bipush 8, 2) := by decide +kernel
theorem dX3_settle_14 : decode cX3_settle 14 = .ok (.if_icmp .ge 12, 3) := by decide +kernel
theorem dX3_settle_17 : decode cX3_settle 17 = .ok (.aload_n 0, 1) := by decide +kernel
theorem dX3_settle_18 : decode cX3_settle 18 = .ok (.getfield 26, 3) := by decide +kernel
theorem dX3_settle_21 : decode cX3_settle 21 = .ok (.iconst 1, 1) := by decide +kernel
theorem dX3_settle_22 : decode cX3_settle 22 = .ok (.iadd, 1) := by decide +kernel
theorem dX3_settle_23 : decode cX3_settle 23 = .ok (.goto 4, 3) := by decide +kernel
theorem dX3_settle_26 : decode cX3_settle 26 = .ok (.iconst 0, 1) := by decide +kernel
theorem dX3_settle_27 : decode cX3_settle 27 = .ok (.putfield 26, 3) := by decide +kernel
theorem dX3_settle_30 : decode cX3_settle 30 = .ok (.aload_n 0, 1) := by decide +kernel
theorem dX3_settle_31 : decode cX3_settle 31 = .ok (.aload_n 0, 1) := by decide +kernel
theorem dX3_settle_32 : decode cX3_settle 32 = .ok (.getfield 30, 3) := by decide +kernel
theorem dX3_settle_35 : decode cX3_settle 35 = .ok (.iconst 1, 1) := by decide +kernel
theorem dX3_settle_36 : decode cX3_settle 36 = .ok (.iadd, 1) := by decide +kernel
theorem dX3_settle_37 : decode cX3_settle 37 = .ok (.bipush 8, 2) := by decide +kernel
theorem dX3_settle_39 : decode cX3_settle 39 = .ok (.invokestatic 44, 3) := by decide +kernel
theorem dX3_settle_42 : decode cX3_settle 42 = .ok (.putfield 30, 3) := by decide +kernel
theorem dX3_settle_45 : decode cX3_settle 45 = .ok (.iload_n 1, 1) := by decide +kernel
theorem dX3_settle_46 : decode cX3_settle 46 = .ok (.ireturn, 1) := by decide +kernel
theorem dX3_undoLatest_0 : decode cX3_undoLatest 0 = .ok (.aload_n 0, 1) := by decide +kernel
theorem dX3_undoLatest_1 : decode cX3_undoLatest 1 = .ok (.getfield 30, 3) := by decide +kernel
theorem dX3_undoLatest_4 : decode cX3_undoLatest 4 = .ok (.ifCond .ne 6, 3) := by decide +kernel
theorem dX3_undoLatest_7 : decode cX3_undoLatest 7 = .ok (.bipush (-15), 2) := by decide +kernel
theorem dX3_undoLatest_9 : decode cX3_undoLatest 9 = .ok (.ireturn, 1) := by decide +kernel
theorem dX3_undoLatest_10 : decode cX3_undoLatest 10 = .ok (.aload_n 0, 1) := by decide +kernel
theorem dX3_undoLatest_11 : decode cX3_undoLatest 11 = .ok (.aload_n 0, 1) := by decide +kernel
theorem dX3_undoLatest_12 : decode cX3_undoLatest 12 = .ok (.getfield 26, 3) := by decide +kernel
theorem dX3_undoLatest_15 : decode cX3_undoLatest 15 = .ok (.ifCond .le 12, 3) := by decide +kernel
theorem dX3_undoLatest_18 : decode cX3_undoLatest 18 = .ok (.aload_n 0, 1) := by decide +kernel
theorem dX3_undoLatest_19 : decode cX3_undoLatest 19 = .ok (.getfield 26, 3) := by decide +kernel
theorem dX3_undoLatest_22 : decode cX3_undoLatest 22 = .ok (.iconst 1, 1) := by decide +kernel
theorem dX3_undoLatest_23 : decode cX3_undoLatest 23 = .ok (.isub, 1) := by decide +kernel
theorem dX3_undoLatest_24 : decode cX3_undoLatest 24 = .ok (.goto 5, 3) := by decide +kernel
theorem dX3_undoLatest_27 : decode cX3_undoLatest 27 = .ok (.bipush 8, 2) := by decide +kernel
theorem dX3_undoLatest_29 : decode cX3_undoLatest 29 = .ok (.putfield 26, 3) := by decide +kernel
theorem dX3_undoLatest_32 : decode cX3_undoLatest 32 = .ok (.aload_n 0, 1) := by decide +kernel
theorem dX3_undoLatest_33 : decode cX3_undoLatest 33 = .ok (.invokevirtual 50, 3) := by decide +kernel
theorem dX3_undoLatest_36 : decode cX3_undoLatest 36 = .ok (.aload_n 0, 1) := by decide +kernel
theorem dX3_undoLatest_37 : decode cX3_undoLatest 37 = .ok (.dup, 1) := by decide +kernel
theorem dX3_undoLatest_38 : decode cX3_undoLatest 38 = .ok (.getfield 30, 3) := by decide +kernel
theorem dX3_undoLatest_41 : decode cX3_undoLatest 41 = .ok (.iconst 1, 1) := by decide +kernel
theorem dX3_undoLatest_42 : decode cX3_undoLatest 42 = .ok (.isub, 1) := by decide +kernel
theorem dX3_undoLatest_43 : decode cX3_undoLatest 43 = .ok (.putfield 30, 3) := by decide +kernel
theorem dX3_undoLatest_46 : decode cX3_undoLatest 46 = .ok (.aload_n 0, 1) := by decide +kernel
theorem dX3_undoLatest_47 : decode cX3_undoLatest 47 = .ok (.getfield 30, 3) := by decide +kernel
theorem dX3_undoLatest_50 : decode cX3_undoLatest 50 = .ok (.ireturn, 1) := by decide +kernel
def f_X2_threadsFrom_L4 (a1 : Int) (μ : mu_T) : Nat → Int → Int → Option Int
  | 0, _, _ => none
  | fu4 + 1, x2_4, x3_4 => lt_ x3_4 4
      (bd_ (f_X2_target μ a1 x3_4) (fun v12 => jn_ (φ := Int → Option Int) (fun x2_23 => nm_ (x3_4 + 1) (fun n23 => (f_X2_threadsFrom_L4 a1 μ fu4) x2_23 n23))
      (fun J23 => eq_ v12 (-15)
      (J23 x2_4)
      (nm_ (x2_4 + 1) (fun n20 => J23 n20)))))
      (some x2_4)
def f_X2_threadsFrom (μ : mu_T) (a1 : Int) : Option Int :=
  f_X2_threadsFrom_L4 a1 μ 20000 0 0
set_option maxHeartbeats 4000000 in
set_option maxRecDepth 100000 in
theorem c_X2_threadsFrom {G : gp_} {ad : Nat → Nat} (μ : mu_T) (a1 : Int) (a : Int) (h : f_X2_threadsFrom μ a1 = some a) : mi_ yX2_threadsFrom cX2_threadsFrom 4 (some .int) ({ frames := 2, cells := 0, slots := 0, locals := 42 } : Room) G 151 ad (ceX G ad) [.ref (ad 0), .int (iI a1)] μ a μ := by
  refine mi_in (own := "UrnHeap$Heap") (lv := [(0, .ref (ad 0)), (1, .int (iI a1))]) (by decide) rfl rfl (Nat.le_of_ble_eq_true rfl) (fun X C E => ?_)
  unfold f_X2_threadsFrom at h
  refine xx_iconst C 1 rfl dX2_threadsFrom_0 ?_
  refine xx_istore_n (lv1 := [(2, .int (iI 0)), (0, .ref (ad 0)), (1, .int (iI a1))]) C 2 rfl (by decide) dX2_threadsFrom_1 rfl rfl ?_
  refine xx_iconst C 3 rfl dX2_threadsFrom_2 ?_
  refine xx_istore_n (lv1 := [(3, .int (iI 0)), (2, .int (iI 0)), (0, .ref (ad 0)), (1, .int (iI a1))]) C 4 rfl (by decide) dX2_threadsFrom_3 rfl rfl ?_
  have L4 : ∀ (fu4 : Nat) (x2_4 : Int) (x3_4 : Int), f_X2_threadsFrom_L4 a1 μ fu4 x2_4 x3_4 = some a → wx_ G X 151 ad (ceX G ad) μ 0 0 4 [(0, .ref (ad 0)), (1, .int (iI a1)), (2, .int (iI x2_4)), (3, .int (iI x3_4))] [] := by
    intro fu4
    induction fu4 with
    | zero => intro x2_4 x3_4 h; exact nn_ h
    | succ fu4 K4 =>
      intro x2_4 x3_4 h
      rw [f_X2_threadsFrom_L4] at h
      generalize f_X2_threadsFrom_L4 a1 μ fu4 = R4 at K4 h
      refine xx_iload_n C 5 rfl 3 dX2_threadsFrom_4 rfl rfl ?_
      refine xx_iconst C 6 rfl dX2_threadsFrom_5 ?_
      refine xx_icmp_ge (tgt := 29) C 9 rfl dX2_threadsFrom_6 (by decide) h (fun h => ?_) (fun h => ?_)
      · refine xx_iload_n C 30 rfl 2 dX2_threadsFrom_29 rfl rfl ?_
        exact xx_iretp C E rfl ⟨Nat.le_of_ble_eq_true rfl, Nat.le_of_ble_eq_true rfl⟩ dX2_threadsFrom_30 h
      · refine xx_aload_n C 10 rfl 0 dX2_threadsFrom_9 rfl rfl ?_
        refine xx_iload_n C 11 rfl 1 dX2_threadsFrom_10 rfl rfl ?_
        refine xx_iload_n C 12 rfl 3 dX2_threadsFrom_11 rfl rfl ?_
        refine xx_cVip (As := [.int (iI a1), .int (iI x3_4)]) (st := []) (o := 0) C 15 rfl (by decide) (ceX_0 _ _ _) rfl rfl ca_X2_target cv_X2_target w_558 rfl ⟨Nat.le_of_ble_eq_true rfl, Nat.le_of_ble_eq_true rfl⟩ ⟨Nat.le_of_ble_eq_true rfl, Nat.le_of_ble_eq_true rfl⟩ (Nat.le_of_ble_eq_true rfl) dX2_threadsFrom_12 (fun v12 e9 => c_X2_target _ _ _ v12 e9) h (fun v12 h => ?_) rfl
        refine xx_bipush C 17 rfl dX2_threadsFrom_15 (by decide) ?_
        refine jn_r (fun J => ∀ (x2_23 : Int), J x2_23 = some a → wx_ G X 151 ad (ceX G ad) μ 0 0 23 [(0, .ref (ad 0)), (1, .int (iI a1)), (2, .int (iI x2_23)), (3, .int (iI x3_4))] []) h (fun x2_23 h => ?_) (fun J23 K23 h => ?_)
        · refine xx_iincn C 26 rfl 3 (by decide) dX2_threadsFrom_23 rfl h (fun n23 h => ?_)
          refine xx_lv (lv1 := [(3, .int (iI n23)), (0, .ref (ad 0)), (1, .int (iI a1)), (2, .int (iI x2_23))]) rfl ?_
          refine xx_goto C 4 dX2_threadsFrom_26 (by decide) ?_
          refine xx_sub [1, 2, 3, 0] rfl ?_
          exact K4 x2_23 n23 h
        · refine xx_icmp_eq (tgt := 23) C 20 rfl dX2_threadsFrom_17 (by decide) h (fun h => ?_) (fun h => ?_)
          · exact K23 x2_4 h
          · refine xx_iincn C 23 rfl 2 (by decide) dX2_threadsFrom_20 rfl h (fun n20 h => ?_)
            refine xx_lv (lv1 := [(2, .int (iI n20)), (0, .ref (ad 0)), (1, .int (iI a1)), (3, .int (iI x3_4))]) rfl ?_
            refine xx_sub [1, 2, 0, 3] rfl ?_
            exact K23 n20 h
  refine xx_sub [2, 3, 1, 0] rfl ?_
  exact L4 _ _ _ h

def f_X2_holdersOf_L34 (a1 : Int) (μ : mu_T) : Nat → Int → Int → Option Int
  | 0, _, _ => none
  | fu34 + 1, x2_34, x3_34 => lt_ x3_34 6
      (rd_ μ 6 6 x3_34 (fun v45 => jn_ (φ := Int → Option Int) (fun x2_53 => nm_ (x3_34 + 1) (fun n53 => (f_X2_holdersOf_L34 a1 μ fu34) x2_53 n53))
      (fun J53 => eq_ v45 a1
      (nm_ (x2_34 + 1) (fun n50 => J53 n50))
      (J53 x2_34))))
      (some x2_34)
def f_X2_holdersOf_L4 (J32 : Int → Option Int) (a1 : Int) (μ : mu_T) : Nat → Int → Int → Option Int
  | 0, _, _ => none
  | fu4 + 1, x2_4, x3_4 => lt_ x3_4 96
      (rd_ μ 1 96 x3_4 (fun v18 => jn_ (φ := Int → Option Int) (fun x2_26 => nm_ (x3_4 + 1) (fun n26 => (f_X2_holdersOf_L4 J32 a1 μ fu4) x2_26 n26))
      (fun J26 => eq_ v18 a1
      (nm_ (x2_4 + 1) (fun n23 => J26 n23))
      (J26 x2_4))))
      (J32 x2_4)
def f_X2_holdersOf (μ : mu_T) (a1 : Int) : Option Int :=
  jn_ (φ := Int → Option Int) (fun x2_32 => f_X2_holdersOf_L34 a1 μ 20000 x2_32 0)
      (fun J32 => f_X2_holdersOf_L4 J32 a1 μ 20000 0 0)
set_option maxHeartbeats 4000000 in
set_option maxRecDepth 100000 in
theorem c_X2_holdersOf {G : gp_} {ad : Nat → Nat} (μ : mu_T) (a1 : Int) (a : Int) (h : f_X2_holdersOf μ a1 = some a) : mi_ yX2_holdersOf cX2_holdersOf 4 (some .int) ({ frames := 0, cells := 0, slots := 0, locals := 0 } : Room) G 151 ad (ceX G ad) [.ref (ad 0), .int (iI a1)] μ a μ := by
  refine mi_in (own := "UrnHeap$Heap") (lv := [(0, .ref (ad 0)), (1, .int (iI a1))]) (by decide) rfl rfl (Nat.le_of_ble_eq_true rfl) (fun X C E => ?_)
  unfold f_X2_holdersOf at h
  refine xx_iconst C 1 rfl dX2_holdersOf_0 ?_
  refine xx_istore_n (lv1 := [(2, .int (iI 0)), (0, .ref (ad 0)), (1, .int (iI a1))]) C 2 rfl (by decide) dX2_holdersOf_1 rfl rfl ?_
  refine xx_iconst C 3 rfl dX2_holdersOf_2 ?_
  refine xx_istore_n (lv1 := [(3, .int (iI 0)), (2, .int (iI 0)), (0, .ref (ad 0)), (1, .int (iI a1))]) C 4 rfl (by decide) dX2_holdersOf_3 rfl rfl ?_
  refine jn_r (fun J => ∀ (x2_32 : Int), J x2_32 = some a → wx_ G X 151 ad (ceX G ad) μ 0 0 32 [(0, .ref (ad 0)), (1, .int (iI a1)), (2, .int (iI x2_32))] []) h (fun x2_32 h => ?_) (fun J32 K32 h => ?_)
  · refine xx_iconst C 33 rfl dX2_holdersOf_32 ?_
    refine xx_istore_n (lv1 := [(3, .int (iI 0)), (0, .ref (ad 0)), (1, .int (iI a1)), (2, .int (iI x2_32))]) C 34 rfl (by decide) dX2_holdersOf_33 rfl rfl ?_
    have L34 : ∀ (fu34 : Nat) (x2_34 : Int) (x3_34 : Int), f_X2_holdersOf_L34 a1 μ fu34 x2_34 x3_34 = some a → wx_ G X 151 ad (ceX G ad) μ 0 0 34 [(0, .ref (ad 0)), (1, .int (iI a1)), (2, .int (iI x2_34)), (3, .int (iI x3_34))] [] := by
      intro fu34
      induction fu34 with
      | zero => intro x2_34 x3_34 h; exact nn_ h
      | succ fu34 K34 =>
        intro x2_34 x3_34 h
        rw [f_X2_holdersOf_L34] at h
        generalize f_X2_holdersOf_L34 a1 μ fu34 = R34 at K34 h
        refine xx_iload_n C 35 rfl 3 dX2_holdersOf_34 rfl rfl ?_
        refine xx_bipush C 37 rfl dX2_holdersOf_35 (by decide) ?_
        refine xx_icmp_ge (tgt := 59) C 40 rfl dX2_holdersOf_37 (by decide) h (fun h => ?_) (fun h => ?_)
        · refine xx_iload_n C 60 rfl 2 dX2_holdersOf_59 rfl rfl ?_
          exact xx_iretp C E rfl ⟨Nat.le_of_ble_eq_true rfl, Nat.le_of_ble_eq_true rfl⟩ dX2_holdersOf_60 h
        · refine xx_aload_n C 41 rfl 0 dX2_holdersOf_40 rfl rfl ?_
          refine xx_getr (fi := 5) C 44 rfl (by decide) (ceX_0 _ _ _) rfl in_X2 (by decide) rfl rfl w_157 dX2_holdersOf_41 ?_
          refine xx_iload_n C 45 rfl 3 dX2_holdersOf_44 rfl rfl ?_
          refine xx_iaload C 46 rfl (by decide) (fun row => ceX_6 _ _ row) (by decide) dX2_holdersOf_45 h (fun v45 h => ?_)
          refine xx_iload_n C 47 rfl 1 dX2_holdersOf_46 rfl rfl ?_
          refine jn_r (fun J => ∀ (x2_53 : Int), J x2_53 = some a → wx_ G X 151 ad (ceX G ad) μ 0 0 53 [(0, .ref (ad 0)), (1, .int (iI a1)), (2, .int (iI x2_53)), (3, .int (iI x3_34))] []) h (fun x2_53 h => ?_) (fun J53 K53 h => ?_)
          · refine xx_iincn C 56 rfl 3 (by decide) dX2_holdersOf_53 rfl h (fun n53 h => ?_)
            refine xx_lv (lv1 := [(3, .int (iI n53)), (0, .ref (ad 0)), (1, .int (iI a1)), (2, .int (iI x2_53))]) rfl ?_
            refine xx_goto C 34 dX2_holdersOf_56 (by decide) ?_
            refine xx_sub [1, 2, 3, 0] rfl ?_
            exact K34 x2_53 n53 h
          · refine xx_icmp_ne (tgt := 53) C 50 rfl dX2_holdersOf_47 (by decide) h (fun h => ?_) (fun h => ?_)
            · exact K53 x2_34 h
            · refine xx_iincn C 53 rfl 2 (by decide) dX2_holdersOf_50 rfl h (fun n50 h => ?_)
              refine xx_lv (lv1 := [(2, .int (iI n50)), (0, .ref (ad 0)), (1, .int (iI a1)), (3, .int (iI x3_34))]) rfl ?_
              refine xx_sub [1, 2, 0, 3] rfl ?_
              exact K53 n50 h
    refine xx_sub [1, 2, 3, 0] rfl ?_
    exact L34 _ _ _ h
  · have L4 : ∀ (fu4 : Nat) (x2_4 : Int) (x3_4 : Int), f_X2_holdersOf_L4 J32 a1 μ fu4 x2_4 x3_4 = some a → wx_ G X 151 ad (ceX G ad) μ 0 0 4 [(0, .ref (ad 0)), (1, .int (iI a1)), (2, .int (iI x2_4)), (3, .int (iI x3_4))] [] := by
      intro fu4
      induction fu4 with
      | zero => intro x2_4 x3_4 h; exact nn_ h
      | succ fu4 K4 =>
        intro x2_4 x3_4 h
        rw [f_X2_holdersOf_L4] at h
        generalize f_X2_holdersOf_L4 J32 a1 μ fu4 = R4 at K4 h
        refine xx_iload_n C 5 rfl 3 dX2_holdersOf_4 rfl rfl ?_
        refine xx_aload_n C 6 rfl 0 dX2_holdersOf_5 rfl rfl ?_
        refine xx_getr (fi := 0) C 9 rfl (by decide) (ceX_0 _ _ _) rfl in_X2 (by decide) rfl rfl w_135 dX2_holdersOf_6 ?_
        refine xx_alen (nA := 96) C 10 rfl (by decide) (fun row => ceX_1 _ _ row) dX2_holdersOf_9 ?_
        refine xx_icmp_ge (tgt := 32) C 13 rfl dX2_holdersOf_10 (by decide) h (fun h => ?_) (fun h => ?_)
        · refine xx_sub [0, 1, 2] rfl ?_
          exact K32 x2_4 h
        · refine xx_aload_n C 14 rfl 0 dX2_holdersOf_13 rfl rfl ?_
          refine xx_getr (fi := 0) C 17 rfl (by decide) (ceX_0 _ _ _) rfl in_X2 (by decide) rfl rfl w_135 dX2_holdersOf_14 ?_
          refine xx_iload_n C 18 rfl 3 dX2_holdersOf_17 rfl rfl ?_
          refine xx_iaload C 19 rfl (by decide) (fun row => ceX_1 _ _ row) (by decide) dX2_holdersOf_18 h (fun v18 h => ?_)
          refine xx_iload_n C 20 rfl 1 dX2_holdersOf_19 rfl rfl ?_
          refine jn_r (fun J => ∀ (x2_26 : Int), J x2_26 = some a → wx_ G X 151 ad (ceX G ad) μ 0 0 26 [(0, .ref (ad 0)), (1, .int (iI a1)), (2, .int (iI x2_26)), (3, .int (iI x3_4))] []) h (fun x2_26 h => ?_) (fun J26 K26 h => ?_)
          · refine xx_iincn C 29 rfl 3 (by decide) dX2_holdersOf_26 rfl h (fun n26 h => ?_)
            refine xx_lv (lv1 := [(3, .int (iI n26)), (0, .ref (ad 0)), (1, .int (iI a1)), (2, .int (iI x2_26))]) rfl ?_
            refine xx_goto C 4 dX2_holdersOf_29 (by decide) ?_
            refine xx_sub [1, 2, 3, 0] rfl ?_
            exact K4 x2_26 n26 h
          · refine xx_icmp_ne (tgt := 26) C 23 rfl dX2_holdersOf_20 (by decide) h (fun h => ?_) (fun h => ?_)
            · exact K26 x2_4 h
            · refine xx_iincn C 26 rfl 2 (by decide) dX2_holdersOf_23 rfl h (fun n23 h => ?_)
              refine xx_lv (lv1 := [(2, .int (iI n23)), (0, .ref (ad 0)), (1, .int (iI a1)), (3, .int (iI x3_4))]) rfl ?_
              refine xx_sub [1, 2, 0, 3] rfl ?_
              exact K26 n23 h
    refine xx_sub [2, 3, 1, 0] rfl ?_
    exact L4 _ _ _ h

def f_X2_holdersOfAll_L4 (μ : mu_T) : Nat → Int → Int → Option Int
  | 0, _, _ => none
  | fu4 + 1, x1_4, x2_4 => lt_ x2_4 24
      (bd_ (f_X2_hasUrn μ x2_4) (fun v12 => jn_ (φ := Int → Option Int) (fun x1_26 => nm_ (x2_4 + 1) (fun n26 => (f_X2_holdersOfAll_L4 μ fu4) x1_26 n26))
      (fun J26 => eq_ v12 0
      (J26 x1_4)
      (bd_ (f_X2_holdersOf μ x2_4) (fun v21 => nm_ ((x1_4 + v21)) (fun n25 => J26 n25))))))
      (some x1_4)
def f_X2_holdersOfAll (μ : mu_T)  : Option Int :=
  f_X2_holdersOfAll_L4 μ 20000 0 0
set_option maxHeartbeats 4000000 in
set_option maxRecDepth 100000 in
theorem c_X2_holdersOfAll {G : gp_} {ad : Nat → Nat} (μ : mu_T)  (a : Int) (h : f_X2_holdersOfAll μ  = some a) : mi_ yX2_holdersOfAll cX2_holdersOfAll 3 (some .int) ({ frames := 1, cells := 0, slots := 0, locals := 23 } : Room) G 151 ad (ceX G ad) [.ref (ad 0)] μ a μ := by
  refine mi_in (own := "UrnHeap$Heap") (lv := [(0, .ref (ad 0))]) (by decide) rfl rfl (Nat.le_of_ble_eq_true rfl) (fun X C E => ?_)
  unfold f_X2_holdersOfAll at h
  refine xx_iconst C 1 rfl dX2_holdersOfAll_0 ?_
  refine xx_istore_n (lv1 := [(1, .int (iI 0)), (0, .ref (ad 0))]) C 2 rfl (by decide) dX2_holdersOfAll_1 rfl rfl ?_
  refine xx_iconst C 3 rfl dX2_holdersOfAll_2 ?_
  refine xx_istore_n (lv1 := [(2, .int (iI 0)), (1, .int (iI 0)), (0, .ref (ad 0))]) C 4 rfl (by decide) dX2_holdersOfAll_3 rfl rfl ?_
  have L4 : ∀ (fu4 : Nat) (x1_4 : Int) (x2_4 : Int), f_X2_holdersOfAll_L4 μ fu4 x1_4 x2_4 = some a → wx_ G X 151 ad (ceX G ad) μ 0 0 4 [(0, .ref (ad 0)), (1, .int (iI x1_4)), (2, .int (iI x2_4))] [] := by
    intro fu4
    induction fu4 with
    | zero => intro x1_4 x2_4 h; exact nn_ h
    | succ fu4 K4 =>
      intro x1_4 x2_4 h
      rw [f_X2_holdersOfAll_L4] at h
      generalize f_X2_holdersOfAll_L4 μ fu4 = R4 at K4 h
      refine xx_iload_n C 5 rfl 2 dX2_holdersOfAll_4 rfl rfl ?_
      refine xx_bipush C 7 rfl dX2_holdersOfAll_5 (by decide) ?_
      refine xx_icmp_ge (tgt := 32) C 10 rfl dX2_holdersOfAll_7 (by decide) h (fun h => ?_) (fun h => ?_)
      · refine xx_iload_n C 33 rfl 1 dX2_holdersOfAll_32 rfl rfl ?_
        exact xx_iretp C E rfl ⟨Nat.le_of_ble_eq_true rfl, Nat.le_of_ble_eq_true rfl⟩ dX2_holdersOfAll_33 h
      · refine xx_aload_n C 11 rfl 0 dX2_holdersOfAll_10 rfl rfl ?_
        refine xx_iload_n C 12 rfl 2 dX2_holdersOfAll_11 rfl rfl ?_
        refine xx_cVip (As := [.int (iI x2_4)]) (st := []) (o := 0) C 15 rfl (by decide) (ceX_0 _ _ _) rfl rfl ca_X2_hasUrn cv_X2_hasUrn w_613 rfl ⟨Nat.le_of_ble_eq_true rfl, Nat.le_of_ble_eq_true rfl⟩ ⟨Nat.le_of_ble_eq_true rfl, Nat.le_of_ble_eq_true rfl⟩ (Nat.le_of_ble_eq_true rfl) dX2_holdersOfAll_12 (fun v12 e9 => c_X2_hasUrn _ _ v12 e9) h (fun v12 h => ?_) rfl
        refine jn_r (fun J => ∀ (x1_26 : Int), J x1_26 = some a → wx_ G X 151 ad (ceX G ad) μ 0 0 26 [(0, .ref (ad 0)), (1, .int (iI x1_26)), (2, .int (iI x2_4))] []) h (fun x1_26 h => ?_) (fun J26 K26 h => ?_)
        · refine xx_iincn C 29 rfl 2 (by decide) dX2_holdersOfAll_26 rfl h (fun n26 h => ?_)
          refine xx_lv (lv1 := [(2, .int (iI n26)), (0, .ref (ad 0)), (1, .int (iI x1_26))]) rfl ?_
          refine xx_goto C 4 dX2_holdersOfAll_29 (by decide) ?_
          refine xx_sub [1, 2, 0] rfl ?_
          exact K4 x1_26 n26 h
        · refine xx_if_eq (tgt := 26) C 18 rfl dX2_holdersOfAll_15 (by decide) h (fun h => ?_) (fun h => ?_)
          · exact K26 x1_4 h
          · refine xx_iload_n C 19 rfl 1 dX2_holdersOfAll_18 rfl rfl ?_
            refine xx_aload_n C 20 rfl 0 dX2_holdersOfAll_19 rfl rfl ?_
            refine xx_iload_n C 21 rfl 2 dX2_holdersOfAll_20 rfl rfl ?_
            refine xx_cVip (As := [.int (iI x2_4)]) (st := [.int (iI x1_4)]) (o := 0) C 24 rfl (by decide) (ceX_0 _ _ _) rfl rfl ca_X2_holdersOf cv_X2_holdersOf w_1121 rfl ⟨Nat.le_of_ble_eq_true rfl, Nat.le_of_ble_eq_true rfl⟩ ⟨Nat.le_of_ble_eq_true rfl, Nat.le_of_ble_eq_true rfl⟩ (Nat.le_of_ble_eq_true rfl) dX2_holdersOfAll_21 (fun v21 e9 => c_X2_holdersOf _ _ v21 e9) h (fun v21 h => ?_) rfl
            refine xx_iadd C 25 rfl dX2_holdersOfAll_24 ?_
            refine xx_nm C h (fun n25 h => ?_)
            refine xx_istore_n (lv1 := [(1, .int (iI n25)), (0, .ref (ad 0)), (2, .int (iI x2_4))]) C 26 rfl (by decide) dX2_holdersOfAll_25 rfl rfl ?_
            refine xx_sub [1, 0, 2] rfl ?_
            exact K26 n25 h
  refine xx_sub [2, 1, 0] rfl ?_
  exact L4 _ _ _ h

def f_X2_freedLate (μ : mu_T) (a1 : Int) : Option Int :=
  lt_ a1 0
      (some (-11))
      (lt_ a1 12
      (nm_ (μ 0 13) (fun v12 => lt_ a1 v12
      (nm_ (μ 0 13) (fun v26 => rm_ ((v26 - 1) - a1) 12 (fun v35 => rd_ μ 7 12 v35 (fun v36 => some v36))))
      (some (-11))))
      (some (-11)))
set_option maxHeartbeats 4000000 in
set_option maxRecDepth 100000 in
theorem c_X2_freedLate {G : gp_} {ad : Nat → Nat} (μ : mu_T) (a1 : Int) (a : Int) (h : f_X2_freedLate μ a1 = some a) : mi_ yX2_freedLate cX2_freedLate 2 (some .int) ({ frames := 0, cells := 0, slots := 0, locals := 0 } : Room) G 151 ad (ceX G ad) [.ref (ad 0), .int (iI a1)] μ a μ := by
  refine mi_in (own := "UrnHeap$Heap") (lv := [(0, .ref (ad 0)), (1, .int (iI a1))]) (by decide) rfl rfl (Nat.le_of_ble_eq_true rfl) (fun X C E => ?_)
  unfold f_X2_freedLate at h
  refine xx_iload_n C 1 rfl 1 dX2_freedLate_0 rfl rfl ?_
  refine xx_if_lt (tgt := 18) C 4 rfl dX2_freedLate_1 (by decide) h (fun h => ?_) (fun h => ?_)
  · refine xx_bipush C 20 rfl dX2_freedLate_18 (by decide) ?_
    exact xx_iretp C E rfl ⟨Nat.le_of_ble_eq_true rfl, Nat.le_of_ble_eq_true rfl⟩ dX2_freedLate_20 h
  · refine xx_iload_n C 5 rfl 1 dX2_freedLate_4 rfl rfl ?_
    refine xx_bipush C 7 rfl dX2_freedLate_5 (by decide) ?_
    refine xx_icmp_ge (tgt := 18) C 10 rfl dX2_freedLate_7 (by decide) h (fun h => ?_) (fun h => ?_)
    · refine xx_bipush C 20 rfl dX2_freedLate_18 (by decide) ?_
      exact xx_iretp C E rfl ⟨Nat.le_of_ble_eq_true rfl, Nat.le_of_ble_eq_true rfl⟩ dX2_freedLate_20 h
    · refine xx_iload_n C 11 rfl 1 dX2_freedLate_10 rfl rfl ?_
      refine xx_aload_n C 12 rfl 0 dX2_freedLate_11 rfl rfl ?_
      refine xx_geti (fi := 13) (j := 13) C 15 rfl (by decide) (ceX_0 _ _ _) rfl in_X2 (by decide) rfl rfl w_184 dX2_freedLate_12 h (fun v12 h => ?_)
      refine xx_icmp_lt (tgt := 21) C 18 rfl dX2_freedLate_15 (by decide) h (fun h => ?_) (fun h => ?_)
      · refine xx_aload_n C 22 rfl 0 dX2_freedLate_21 rfl rfl ?_
        refine xx_getr (fi := 6) C 25 rfl (by decide) (ceX_0 _ _ _) rfl in_X2 (by decide) rfl rfl w_162 dX2_freedLate_22 ?_
        refine xx_aload_n C 26 rfl 0 dX2_freedLate_25 rfl rfl ?_
        refine xx_geti (fi := 13) (j := 13) C 29 rfl (by decide) (ceX_0 _ _ _) rfl in_X2 (by decide) rfl rfl w_184 dX2_freedLate_26 h (fun v26 h => ?_)
        refine xx_iconst C 30 rfl dX2_freedLate_29 ?_
        refine xx_isub C 31 rfl dX2_freedLate_30 ?_
        refine xx_iload_n C 32 rfl 1 dX2_freedLate_31 rfl rfl ?_
        refine xx_isub C 33 rfl dX2_freedLate_32 ?_
        refine xx_bipush C 35 rfl dX2_freedLate_33 (by decide) ?_
        refine xx_irem C 36 rfl dX2_freedLate_35 h (fun v35 h => ?_)
        refine xx_iaload C 37 rfl (by decide) (fun row => ceX_7 _ _ row) (by decide) dX2_freedLate_36 h (fun v36 h => ?_)
        exact xx_iretp C E rfl ⟨Nat.le_of_ble_eq_true rfl, Nat.le_of_ble_eq_true rfl⟩ dX2_freedLate_37 h
      · refine xx_bipush C 20 rfl dX2_freedLate_18 (by decide) ?_
        exact xx_iretp C E rfl ⟨Nat.le_of_ble_eq_true rfl, Nat.le_of_ble_eq_true rfl⟩ dX2_freedLate_20 h

def f_X2_free_L58 (J91 : mu_T → Option mu_T) (a1 : Int) : Nat → Int → mu_T → Option mu_T
  | 0, _, _ => none
  | fu58 + 1, x2_58, μ58 => lt_ x2_58 96
      (rd_ μ58 1 96 x2_58 (fun v72 => jn_ (φ := mu_T → Option mu_T) (fun μ85 => nm_ (x2_58 + 1) (fun n85 => (f_X2_free_L58 J91 a1 fu58) n85 μ85))
      (fun J85 => eq_ v72 a1
      (wr_ μ58 1 96 x2_58 (-15) (fun μ84 => J85 μ84))
      (J85 μ58))))
      (J91 μ58)
def f_X2_free_L33 (J56 : mu_T → Option mu_T) (a1 : Int) : Nat → Int → mu_T → Option mu_T
  | 0, _, _ => none
  | fu33 + 1, x2_33, μ33 => lt_ x2_33 4
      (wr_ μ33 1 96 ((a1 * 4) + x2_33) (-15) (fun μ49 => nm_ (x2_33 + 1) (fun n50 => (f_X2_free_L33 J56 a1 fu33) n50 μ49)))
      (J56 μ33)
def f_X2_free (μ : mu_T) (a1 : Int) : Option mu_T :=
  bd_ (f_X2_hasUrn μ a1) (fun v2 => eq_ v2 0
      (some μ)
      (wr_ μ 4 24 a1 (-1) (fun μ15 => wr_ μ15 3 24 a1 0 (fun μ22 => wr_ μ22 2 24 a1 (-15) (fun μ30 => jn_ (φ := mu_T → Option mu_T) (fun μ56 => jn_ (φ := mu_T → Option mu_T) (fun μ91 => nm_ (μ91 0 13) (fun v96 => rm_ v96 12 (fun v101 => wr_ μ91 7 12 v101 a1 (fun μ103 => nm_ (μ103 0 13) (fun v106 => wf_ μ103 0 13 (v106 + 1) (fun μ111 => some μ111))))))
      (fun J91 => f_X2_free_L58 J91 a1 20000 0 μ56))
      (fun J56 => f_X2_free_L33 J56 a1 20000 0 μ30))))))
set_option maxHeartbeats 4000000 in
set_option maxRecDepth 100000 in
theorem c_X2_free {G : gp_} {ad : Nat → Nat} (μ : mu_T) (a1 : Int) (μr : mu_T) (h : f_X2_free μ a1 = some μr) : mv_ yX2_free cX2_free 3 ({ frames := 1, cells := 0, slots := 0, locals := 21 } : Room) G 151 ad (ceX G ad) [.ref (ad 0), .int (iI a1)] μ μr := by
  refine mv_in (own := "UrnHeap$Heap") (lv := [(0, .ref (ad 0)), (1, .int (iI a1))]) (by decide) rfl rfl (Nat.le_of_ble_eq_true rfl) (fun X C E => ?_)
  unfold f_X2_free at h
  refine xx_aload_n C 1 rfl 0 dX2_free_0 rfl rfl ?_
  refine xx_iload_n C 2 rfl 1 dX2_free_1 rfl rfl ?_
  refine xx_cVip (As := [.int (iI a1)]) (st := []) (o := 0) C 5 rfl (by decide) (ceX_0 _ _ _) rfl rfl ca_X2_hasUrn cv_X2_hasUrn w_613 rfl ⟨Nat.le_of_ble_eq_true rfl, Nat.le_of_ble_eq_true rfl⟩ ⟨Nat.le_of_ble_eq_true rfl, Nat.le_of_ble_eq_true rfl⟩ (Nat.le_of_ble_eq_true rfl) dX2_free_2 (fun v2 e9 => c_X2_hasUrn _ _ v2 e9) h (fun v2 h => ?_) rfl
  refine xx_if_ne (tgt := 9) C 8 rfl dX2_free_5 (by decide) h (fun h => ?_) (fun h => ?_)
  · refine xx_aload_n C 10 rfl 0 dX2_free_9 rfl rfl ?_
    refine xx_getr (fi := 3) C 13 rfl (by decide) (ceX_0 _ _ _) rfl in_X2 (by decide) rfl rfl w_149 dX2_free_10 ?_
    refine xx_iload_n C 14 rfl 1 dX2_free_13 rfl rfl ?_
    refine xx_iconst C 15 rfl dX2_free_14 ?_
    refine xx_iastore C 16 rfl (by decide) (fun row => ceX_4 _ _ row) (by decide) dX2_free_15 h (fun μ15 h => ?_)
    refine xx_aload_n C 17 rfl 0 dX2_free_16 rfl rfl ?_
    refine xx_getr (fi := 2) C 20 rfl (by decide) (ceX_0 _ _ _) rfl in_X2 (by decide) rfl rfl w_143 dX2_free_17 ?_
    refine xx_iload_n C 21 rfl 1 dX2_free_20 rfl rfl ?_
    refine xx_iconst C 22 rfl dX2_free_21 ?_
    refine xx_iastore C 23 rfl (by decide) (fun row => ceX_3 _ _ row) (by decide) dX2_free_22 h (fun μ22 h => ?_)
    refine xx_aload_n C 24 rfl 0 dX2_free_23 rfl rfl ?_
    refine xx_getr (fi := 1) C 27 rfl (by decide) (ceX_0 _ _ _) rfl in_X2 (by decide) rfl rfl w_138 dX2_free_24 ?_
    refine xx_iload_n C 28 rfl 1 dX2_free_27 rfl rfl ?_
    refine xx_bipush C 30 rfl dX2_free_28 (by decide) ?_
    refine xx_iastore C 31 rfl (by decide) (fun row => ceX_2 _ _ row) (by decide) dX2_free_30 h (fun μ30 h => ?_)
    refine xx_iconst C 32 rfl dX2_free_31 ?_
    refine xx_istore_n (lv1 := [(2, .int (iI 0)), (0, .ref (ad 0)), (1, .int (iI a1))]) C 33 rfl (by decide) dX2_free_32 rfl rfl ?_
    refine jn_r (fun J => ∀ (μ56 : mu_T), J μ56 = some μr → wx_ G X 151 ad (ceX G ad) μ56 0 0 56 [(0, .ref (ad 0)), (1, .int (iI a1))] []) h (fun μ56 h => ?_) (fun J56 K56 h => ?_)
    · refine xx_iconst C 57 rfl dX2_free_56 ?_
      refine xx_istore_n (lv1 := [(2, .int (iI 0)), (0, .ref (ad 0)), (1, .int (iI a1))]) C 58 rfl (by decide) dX2_free_57 rfl rfl ?_
      refine jn_r (fun J => ∀ (μ91 : mu_T), J μ91 = some μr → wx_ G X 151 ad (ceX G ad) μ91 0 0 91 [(0, .ref (ad 0)), (1, .int (iI a1))] []) h (fun μ91 h => ?_) (fun J91 K91 h => ?_)
      · refine xx_aload_n C 92 rfl 0 dX2_free_91 rfl rfl ?_
        refine xx_getr (fi := 6) C 95 rfl (by decide) (ceX_0 _ _ _) rfl in_X2 (by decide) rfl rfl w_162 dX2_free_92 ?_
        refine xx_aload_n C 96 rfl 0 dX2_free_95 rfl rfl ?_
        refine xx_geti (fi := 13) (j := 13) C 99 rfl (by decide) (ceX_0 _ _ _) rfl in_X2 (by decide) rfl rfl w_184 dX2_free_96 h (fun v96 h => ?_)
        refine xx_bipush C 101 rfl dX2_free_99 (by decide) ?_
        refine xx_irem C 102 rfl dX2_free_101 h (fun v101 h => ?_)
        refine xx_iload_n C 103 rfl 1 dX2_free_102 rfl rfl ?_
        refine xx_iastore C 104 rfl (by decide) (fun row => ceX_7 _ _ row) (by decide) dX2_free_103 h (fun μ103 h => ?_)
        refine xx_aload_n C 105 rfl 0 dX2_free_104 rfl rfl ?_
        refine xx_dup C 106 rfl dX2_free_105 rfl ?_
        refine xx_geti (fi := 13) (j := 13) C 109 rfl (by decide) (ceX_0 _ _ _) rfl in_X2 (by decide) rfl rfl w_184 dX2_free_106 h (fun v106 h => ?_)
        refine xx_iconst C 110 rfl dX2_free_109 ?_
        refine xx_iadd C 111 rfl dX2_free_110 ?_
        refine xx_puti (fi := 13) (j := 13) C 114 rfl (by decide) (ceX_0 _ _ _) (puX_0_13 _ _ _ _) rfl in_X2 tyX2 tyX2_ok nmX2 (by decide) (Nat.le_of_ble_eq_true rfl) ⟨rfl, rfl, rfl⟩ w_184 dX2_free_111 h (fun μ111 h => ?_)
        exact xx_vret C E rfl ⟨Nat.le_of_ble_eq_true rfl, Nat.le_of_ble_eq_true rfl⟩ dX2_free_114 h
      · have L58 : ∀ (fu58 : Nat) (x2_58 : Int) (μ58 : mu_T), f_X2_free_L58 J91 a1 fu58 x2_58 μ58 = some μr → wx_ G X 151 ad (ceX G ad) μ58 0 0 58 [(0, .ref (ad 0)), (1, .int (iI a1)), (2, .int (iI x2_58))] [] := by
          intro fu58
          induction fu58 with
          | zero => intro x2_58 μ58 h; exact nn_ h
          | succ fu58 K58 =>
            intro x2_58 μ58 h
            rw [f_X2_free_L58] at h
            generalize f_X2_free_L58 J91 a1 fu58 = R58 at K58 h
            refine xx_iload_n C 59 rfl 2 dX2_free_58 rfl rfl ?_
            refine xx_aload_n C 60 rfl 0 dX2_free_59 rfl rfl ?_
            refine xx_getr (fi := 0) C 63 rfl (by decide) (ceX_0 _ _ _) rfl in_X2 (by decide) rfl rfl w_135 dX2_free_60 ?_
            refine xx_alen (nA := 96) C 64 rfl (by decide) (fun row => ceX_1 _ _ row) dX2_free_63 ?_
            refine xx_icmp_ge (tgt := 91) C 67 rfl dX2_free_64 (by decide) h (fun h => ?_) (fun h => ?_)
            · refine xx_sub [0, 1] rfl ?_
              exact K91 μ58 h
            · refine xx_aload_n C 68 rfl 0 dX2_free_67 rfl rfl ?_
              refine xx_getr (fi := 0) C 71 rfl (by decide) (ceX_0 _ _ _) rfl in_X2 (by decide) rfl rfl w_135 dX2_free_68 ?_
              refine xx_iload_n C 72 rfl 2 dX2_free_71 rfl rfl ?_
              refine xx_iaload C 73 rfl (by decide) (fun row => ceX_1 _ _ row) (by decide) dX2_free_72 h (fun v72 h => ?_)
              refine xx_iload_n C 74 rfl 1 dX2_free_73 rfl rfl ?_
              refine jn_r (fun J => ∀ (μ85 : mu_T), J μ85 = some μr → wx_ G X 151 ad (ceX G ad) μ85 0 0 85 [(0, .ref (ad 0)), (1, .int (iI a1)), (2, .int (iI x2_58))] []) h (fun μ85 h => ?_) (fun J85 K85 h => ?_)
              · refine xx_iincn C 88 rfl 2 (by decide) dX2_free_85 rfl h (fun n85 h => ?_)
                refine xx_lv (lv1 := [(2, .int (iI n85)), (0, .ref (ad 0)), (1, .int (iI a1))]) rfl ?_
                refine xx_goto C 58 dX2_free_88 (by decide) ?_
                refine xx_sub [1, 2, 0] rfl ?_
                exact K58 n85 μ85 h
              · refine xx_icmp_ne (tgt := 85) C 77 rfl dX2_free_74 (by decide) h (fun h => ?_) (fun h => ?_)
                · exact K85 μ58 h
                · refine xx_aload_n C 78 rfl 0 dX2_free_77 rfl rfl ?_
                  refine xx_getr (fi := 0) C 81 rfl (by decide) (ceX_0 _ _ _) rfl in_X2 (by decide) rfl rfl w_135 dX2_free_78 ?_
                  refine xx_iload_n C 82 rfl 2 dX2_free_81 rfl rfl ?_
                  refine xx_bipush C 84 rfl dX2_free_82 (by decide) ?_
                  refine xx_iastore C 85 rfl (by decide) (fun row => ceX_1 _ _ row) (by decide) dX2_free_84 h (fun μ84 h => ?_)
                  exact K85 μ84 h
        refine xx_sub [1, 2, 0] rfl ?_
        exact L58 _ _ _ h
    · have L33 : ∀ (fu33 : Nat) (x2_33 : Int) (μ33 : mu_T), f_X2_free_L33 J56 a1 fu33 x2_33 μ33 = some μr → wx_ G X 151 ad (ceX G ad) μ33 0 0 33 [(0, .ref (ad 0)), (1, .int (iI a1)), (2, .int (iI x2_33))] [] := by
        intro fu33
        induction fu33 with
        | zero => intro x2_33 μ33 h; exact nn_ h
        | succ fu33 K33 =>
          intro x2_33 μ33 h
          rw [f_X2_free_L33] at h
          generalize f_X2_free_L33 J56 a1 fu33 = R33 at K33 h
          refine xx_iload_n C 34 rfl 2 dX2_free_33 rfl rfl ?_
          refine xx_iconst C 35 rfl dX2_free_34 ?_
          refine xx_icmp_ge (tgt := 56) C 38 rfl dX2_free_35 (by decide) h (fun h => ?_) (fun h => ?_)
          · refine xx_sub [0, 1] rfl ?_
            exact K56 μ33 h
          · refine xx_aload_n C 39 rfl 0 dX2_free_38 rfl rfl ?_
            refine xx_getr (fi := 0) C 42 rfl (by decide) (ceX_0 _ _ _) rfl in_X2 (by decide) rfl rfl w_135 dX2_free_39 ?_
            refine xx_iload_n C 43 rfl 1 dX2_free_42 rfl rfl ?_
            refine xx_iconst C 44 rfl dX2_free_43 ?_
            refine xx_imul C 45 rfl dX2_free_44 ?_
            refine xx_iload_n C 46 rfl 2 dX2_free_45 rfl rfl ?_
            refine xx_iadd C 47 rfl dX2_free_46 ?_
            refine xx_bipush C 49 rfl dX2_free_47 (by decide) ?_
            refine xx_iastore C 50 rfl (by decide) (fun row => ceX_1 _ _ row) (by decide) dX2_free_49 h (fun μ49 h => ?_)
            refine xx_iincn C 53 rfl 2 (by decide) dX2_free_50 rfl h (fun n50 h => ?_)
            refine xx_lv (lv1 := [(2, .int (iI n50)), (0, .ref (ad 0)), (1, .int (iI a1))]) rfl ?_
            refine xx_goto C 33 dX2_free_53 (by decide) ?_
            refine xx_sub [1, 2, 0] rfl ?_
            exact K33 n50 μ49 h
      refine xx_sub [1, 2, 0] rfl ?_
      exact L33 _ _ _ h
  · exact xx_vret C E rfl ⟨Nat.le_of_ble_eq_true rfl, Nat.le_of_ble_eq_true rfl⟩ dX2_free_8 h

def f_X2_areUrns_o0o1_L8 (μ : mu_T) : Nat → Int → Option Int
  | 0, _ => none
  | fu8 + 1, x4_8 => lt_ x4_8 96
      (rd_ μ 1 96 x4_8 (fun v17 => jn_ (φ := Unit → Option Int) (fun _ => nm_ (x4_8 + 1) (fun n38 => (f_X2_areUrns_o0o1_L8 μ fu8) n38))
      (fun J38 => eq_ v17 (-15)
      (J38 ())
      (bd_ (f_X2_hasUrn μ v17) (fun v30 => eq_ v30 0
      (some 0)
      (J38 ()))))))
      (some 1)
def f_X2_areUrns_o0o1 (μ : mu_T)  : Option Int :=
  f_X2_areUrns_o0o1_L8 μ 20000 0
set_option maxHeartbeats 4000000 in
set_option maxRecDepth 100000 in
theorem c_X2_areUrns_o0o1 {G : gp_} {ad : Nat → Nat} (μ : mu_T)  (a : Int) (h : f_X2_areUrns_o0o1 μ  = some a) : mi_ yX2_areUrns cX2_areUrns 6 (some .boolean) ({ frames := 1, cells := 0, slots := 0, locals := 21 } : Room) G 151 ad (ceX G ad) [.ref (ad 0), .ref (ad 1)] μ a μ := by
  refine mi_in (own := "UrnHeap$Heap") (lv := [(0, .ref (ad 0)), (1, .ref (ad 1))]) (by decide) rfl rfl (Nat.le_of_ble_eq_true rfl) (fun X C E => ?_)
  unfold f_X2_areUrns_o0o1 at h
  refine xx_aload_n C 1 rfl 1 dX2_areUrns_0 rfl rfl ?_
  refine xx_astore_n (lv1 := [(2, .ref (ad 1)), (0, .ref (ad 0)), (1, .ref (ad 1))]) C 2 rfl (by decide) dX2_areUrns_1 rfl rfl ?_
  refine xx_aload_n C 3 rfl 0 dX2_areUrns_2 rfl rfl ?_
  refine xx_alen (nA := 96) C 4 rfl (by decide) (fun row => ceX_1 _ _ row) dX2_areUrns_3 ?_
  refine xx_istore_n (lv1 := [(3, .int (iI 96)), (2, .ref (ad 1)), (0, .ref (ad 0)), (1, .ref (ad 1))]) C 5 rfl (by decide) dX2_areUrns_4 rfl rfl ?_
  refine xx_iconst C 6 rfl dX2_areUrns_5 ?_
  refine xx_istore (lv1 := [(4, .int (iI 0)), (3, .int (iI 96)), (2, .ref (ad 1)), (0, .ref (ad 0)), (1, .ref (ad 1))]) C 8 rfl (by decide) dX2_areUrns_6 rfl ?_
  have L8 : ∀ (fu8 : Nat) (x4_8 : Int), f_X2_areUrns_o0o1_L8 μ fu8 x4_8 = some a → wx_ G X 151 ad (ceX G ad) μ 0 0 8 [(0, .ref (ad 0)), (2, .ref (ad 1)), (3, .int (iI 96)), (4, .int (iI x4_8))] [] := by
    intro fu8
    induction fu8 with
    | zero => intro x4_8 h; exact nn_ h
    | succ fu8 K8 =>
      intro x4_8 h
      rw [f_X2_areUrns_o0o1_L8] at h
      generalize f_X2_areUrns_o0o1_L8 μ fu8 = R8 at K8 h
      refine xx_iload C 10 rfl 3 dX2_areUrns_8 rfl ?_
      refine xx_iload_n C 11 rfl 2 dX2_areUrns_10 rfl rfl ?_
      refine xx_icmp_ge (tgt := 44) C 14 rfl dX2_areUrns_11 (by decide) h (fun h => ?_) (fun h => ?_)
      · refine xx_iconst C 45 rfl dX2_areUrns_44 ?_
        exact xx_zretl C E rfl rfl ⟨Nat.le_of_ble_eq_true rfl, Nat.le_of_ble_eq_true rfl⟩ dX2_areUrns_45 h
      · refine xx_aload_n C 15 rfl 1 dX2_areUrns_14 rfl rfl ?_
        refine xx_iload C 17 rfl 3 dX2_areUrns_15 rfl ?_
        refine xx_iaload C 18 rfl (by decide) (fun row => ceX_1 _ _ row) (by decide) dX2_areUrns_17 h (fun v17 h => ?_)
        refine xx_istore (lv1 := [(5, .int (iI v17)), (0, .ref (ad 0)), (2, .ref (ad 1)), (3, .int (iI 96)), (4, .int (iI x4_8))]) C 20 rfl (by decide) dX2_areUrns_18 rfl ?_
        refine xx_iload C 22 rfl 0 dX2_areUrns_20 rfl ?_
        refine xx_bipush C 24 rfl dX2_areUrns_22 (by decide) ?_
        refine jn_r (fun J => ∀ (_u : Unit), J _u = some a → wx_ G X 151 ad (ceX G ad) μ 0 0 38 [(0, .ref (ad 0)), (2, .ref (ad 1)), (3, .int (iI 96)), (4, .int (iI x4_8))] []) h (fun _ h => ?_) (fun J38 K38 h => ?_)
        · refine xx_iincn C 41 rfl 3 (by decide) dX2_areUrns_38 rfl h (fun n38 h => ?_)
          refine xx_lv (lv1 := [(4, .int (iI n38)), (0, .ref (ad 0)), (2, .ref (ad 1)), (3, .int (iI 96))]) rfl ?_
          refine xx_goto C 8 dX2_areUrns_41 (by decide) ?_
          refine xx_sub [1, 2, 3, 0] rfl ?_
          exact K8 n38 h
        · refine xx_icmp_eq (tgt := 38) C 27 rfl dX2_areUrns_24 (by decide) h (fun h => ?_) (fun h => ?_)
          · refine xx_sub [1, 2, 3, 4] rfl ?_
            exact K38 () h
          · refine xx_aload_n C 28 rfl 1 dX2_areUrns_27 rfl rfl ?_
            refine xx_iload C 30 rfl 0 dX2_areUrns_28 rfl ?_
            refine xx_cVip (As := [.int (iI v17)]) (st := []) (o := 0) C 33 rfl (by decide) (ceX_0 _ _ _) rfl rfl ca_X2_hasUrn cv_X2_hasUrn w_613 rfl ⟨Nat.le_of_ble_eq_true rfl, Nat.le_of_ble_eq_true rfl⟩ ⟨Nat.le_of_ble_eq_true rfl, Nat.le_of_ble_eq_true rfl⟩ (Nat.le_of_ble_eq_true rfl) dX2_areUrns_30 (fun v30 e9 => c_X2_hasUrn _ _ v30 e9) h (fun v30 h => ?_) rfl
            refine xx_if_ne (tgt := 38) C 36 rfl dX2_areUrns_33 (by decide) h (fun h => ?_) (fun h => ?_)
            · refine xx_sub [1, 2, 3, 4] rfl ?_
              exact K38 () h
            · refine xx_iconst C 37 rfl dX2_areUrns_36 ?_
              exact xx_zretl C E rfl rfl ⟨Nat.le_of_ble_eq_true rfl, Nat.le_of_ble_eq_true rfl⟩ dX2_areUrns_37 h
  refine xx_sub [3, 2, 1, 0] rfl ?_
  exact L8 _ _ h

def f_X2_areUrns_o0o2_L8 (μ : mu_T) : Nat → Int → Option Int
  | 0, _ => none
  | fu8 + 1, x4_8 => lt_ x4_8 24
      (rd_ μ 2 24 x4_8 (fun v17 => jn_ (φ := Unit → Option Int) (fun _ => nm_ (x4_8 + 1) (fun n38 => (f_X2_areUrns_o0o2_L8 μ fu8) n38))
      (fun J38 => eq_ v17 (-15)
      (J38 ())
      (bd_ (f_X2_hasUrn μ v17) (fun v30 => eq_ v30 0
      (some 0)
      (J38 ()))))))
      (some 1)
def f_X2_areUrns_o0o2 (μ : mu_T)  : Option Int :=
  f_X2_areUrns_o0o2_L8 μ 20000 0
set_option maxHeartbeats 4000000 in
set_option maxRecDepth 100000 in
theorem c_X2_areUrns_o0o2 {G : gp_} {ad : Nat → Nat} (μ : mu_T)  (a : Int) (h : f_X2_areUrns_o0o2 μ  = some a) : mi_ yX2_areUrns cX2_areUrns 6 (some .boolean) ({ frames := 1, cells := 0, slots := 0, locals := 21 } : Room) G 151 ad (ceX G ad) [.ref (ad 0), .ref (ad 2)] μ a μ := by
  refine mi_in (own := "UrnHeap$Heap") (lv := [(0, .ref (ad 0)), (1, .ref (ad 2))]) (by decide) rfl rfl (Nat.le_of_ble_eq_true rfl) (fun X C E => ?_)
  unfold f_X2_areUrns_o0o2 at h
  refine xx_aload_n C 1 rfl 1 dX2_areUrns_0 rfl rfl ?_
  refine xx_astore_n (lv1 := [(2, .ref (ad 2)), (0, .ref (ad 0)), (1, .ref (ad 2))]) C 2 rfl (by decide) dX2_areUrns_1 rfl rfl ?_
  refine xx_aload_n C 3 rfl 0 dX2_areUrns_2 rfl rfl ?_
  refine xx_alen (nA := 24) C 4 rfl (by decide) (fun row => ceX_2 _ _ row) dX2_areUrns_3 ?_
  refine xx_istore_n (lv1 := [(3, .int (iI 24)), (2, .ref (ad 2)), (0, .ref (ad 0)), (1, .ref (ad 2))]) C 5 rfl (by decide) dX2_areUrns_4 rfl rfl ?_
  refine xx_iconst C 6 rfl dX2_areUrns_5 ?_
  refine xx_istore (lv1 := [(4, .int (iI 0)), (3, .int (iI 24)), (2, .ref (ad 2)), (0, .ref (ad 0)), (1, .ref (ad 2))]) C 8 rfl (by decide) dX2_areUrns_6 rfl ?_
  have L8 : ∀ (fu8 : Nat) (x4_8 : Int), f_X2_areUrns_o0o2_L8 μ fu8 x4_8 = some a → wx_ G X 151 ad (ceX G ad) μ 0 0 8 [(0, .ref (ad 0)), (2, .ref (ad 2)), (3, .int (iI 24)), (4, .int (iI x4_8))] [] := by
    intro fu8
    induction fu8 with
    | zero => intro x4_8 h; exact nn_ h
    | succ fu8 K8 =>
      intro x4_8 h
      rw [f_X2_areUrns_o0o2_L8] at h
      generalize f_X2_areUrns_o0o2_L8 μ fu8 = R8 at K8 h
      refine xx_iload C 10 rfl 3 dX2_areUrns_8 rfl ?_
      refine xx_iload_n C 11 rfl 2 dX2_areUrns_10 rfl rfl ?_
      refine xx_icmp_ge (tgt := 44) C 14 rfl dX2_areUrns_11 (by decide) h (fun h => ?_) (fun h => ?_)
      · refine xx_iconst C 45 rfl dX2_areUrns_44 ?_
        exact xx_zretl C E rfl rfl ⟨Nat.le_of_ble_eq_true rfl, Nat.le_of_ble_eq_true rfl⟩ dX2_areUrns_45 h
      · refine xx_aload_n C 15 rfl 1 dX2_areUrns_14 rfl rfl ?_
        refine xx_iload C 17 rfl 3 dX2_areUrns_15 rfl ?_
        refine xx_iaload C 18 rfl (by decide) (fun row => ceX_2 _ _ row) (by decide) dX2_areUrns_17 h (fun v17 h => ?_)
        refine xx_istore (lv1 := [(5, .int (iI v17)), (0, .ref (ad 0)), (2, .ref (ad 2)), (3, .int (iI 24)), (4, .int (iI x4_8))]) C 20 rfl (by decide) dX2_areUrns_18 rfl ?_
        refine xx_iload C 22 rfl 0 dX2_areUrns_20 rfl ?_
        refine xx_bipush C 24 rfl dX2_areUrns_22 (by decide) ?_
        refine jn_r (fun J => ∀ (_u : Unit), J _u = some a → wx_ G X 151 ad (ceX G ad) μ 0 0 38 [(0, .ref (ad 0)), (2, .ref (ad 2)), (3, .int (iI 24)), (4, .int (iI x4_8))] []) h (fun _ h => ?_) (fun J38 K38 h => ?_)
        · refine xx_iincn C 41 rfl 3 (by decide) dX2_areUrns_38 rfl h (fun n38 h => ?_)
          refine xx_lv (lv1 := [(4, .int (iI n38)), (0, .ref (ad 0)), (2, .ref (ad 2)), (3, .int (iI 24))]) rfl ?_
          refine xx_goto C 8 dX2_areUrns_41 (by decide) ?_
          refine xx_sub [1, 2, 3, 0] rfl ?_
          exact K8 n38 h
        · refine xx_icmp_eq (tgt := 38) C 27 rfl dX2_areUrns_24 (by decide) h (fun h => ?_) (fun h => ?_)
          · refine xx_sub [1, 2, 3, 4] rfl ?_
            exact K38 () h
          · refine xx_aload_n C 28 rfl 1 dX2_areUrns_27 rfl rfl ?_
            refine xx_iload C 30 rfl 0 dX2_areUrns_28 rfl ?_
            refine xx_cVip (As := [.int (iI v17)]) (st := []) (o := 0) C 33 rfl (by decide) (ceX_0 _ _ _) rfl rfl ca_X2_hasUrn cv_X2_hasUrn w_613 rfl ⟨Nat.le_of_ble_eq_true rfl, Nat.le_of_ble_eq_true rfl⟩ ⟨Nat.le_of_ble_eq_true rfl, Nat.le_of_ble_eq_true rfl⟩ (Nat.le_of_ble_eq_true rfl) dX2_areUrns_30 (fun v30 e9 => c_X2_hasUrn _ _ v30 e9) h (fun v30 h => ?_) rfl
            refine xx_if_ne (tgt := 38) C 36 rfl dX2_areUrns_33 (by decide) h (fun h => ?_) (fun h => ?_)
            · refine xx_sub [1, 2, 3, 4] rfl ?_
              exact K38 () h
            · refine xx_iconst C 37 rfl dX2_areUrns_36 ?_
              exact xx_zretl C E rfl rfl ⟨Nat.le_of_ble_eq_true rfl, Nat.le_of_ble_eq_true rfl⟩ dX2_areUrns_37 h
  refine xx_sub [3, 2, 1, 0] rfl ?_
  exact L8 _ _ h

def f_X2_areUrns_o0o6_L8 (μ : mu_T) : Nat → Int → Option Int
  | 0, _ => none
  | fu8 + 1, x4_8 => lt_ x4_8 6
      (rd_ μ 6 6 x4_8 (fun v17 => jn_ (φ := Unit → Option Int) (fun _ => nm_ (x4_8 + 1) (fun n38 => (f_X2_areUrns_o0o6_L8 μ fu8) n38))
      (fun J38 => eq_ v17 (-15)
      (J38 ())
      (bd_ (f_X2_hasUrn μ v17) (fun v30 => eq_ v30 0
      (some 0)
      (J38 ()))))))
      (some 1)
def f_X2_areUrns_o0o6 (μ : mu_T)  : Option Int :=
  f_X2_areUrns_o0o6_L8 μ 20000 0
set_option maxHeartbeats 4000000 in
set_option maxRecDepth 100000 in
theorem c_X2_areUrns_o0o6 {G : gp_} {ad : Nat → Nat} (μ : mu_T)  (a : Int) (h : f_X2_areUrns_o0o6 μ  = some a) : mi_ yX2_areUrns cX2_areUrns 6 (some .boolean) ({ frames := 1, cells := 0, slots := 0, locals := 21 } : Room) G 151 ad (ceX G ad) [.ref (ad 0), .ref (ad 6)] μ a μ := by
  refine mi_in (own := "UrnHeap$Heap") (lv := [(0, .ref (ad 0)), (1, .ref (ad 6))]) (by decide) rfl rfl (Nat.le_of_ble_eq_true rfl) (fun X C E => ?_)
  unfold f_X2_areUrns_o0o6 at h
  refine xx_aload_n C 1 rfl 1 dX2_areUrns_0 rfl rfl ?_
  refine xx_astore_n (lv1 := [(2, .ref (ad 6)), (0, .ref (ad 0)), (1, .ref (ad 6))]) C 2 rfl (by decide) dX2_areUrns_1 rfl rfl ?_
  refine xx_aload_n C 3 rfl 0 dX2_areUrns_2 rfl rfl ?_
  refine xx_alen (nA := 6) C 4 rfl (by decide) (fun row => ceX_6 _ _ row) dX2_areUrns_3 ?_
  refine xx_istore_n (lv1 := [(3, .int (iI 6)), (2, .ref (ad 6)), (0, .ref (ad 0)), (1, .ref (ad 6))]) C 5 rfl (by decide) dX2_areUrns_4 rfl rfl ?_
  refine xx_iconst C 6 rfl dX2_areUrns_5 ?_
  refine xx_istore (lv1 := [(4, .int (iI 0)), (3, .int (iI 6)), (2, .ref (ad 6)), (0, .ref (ad 0)), (1, .ref (ad 6))]) C 8 rfl (by decide) dX2_areUrns_6 rfl ?_
  have L8 : ∀ (fu8 : Nat) (x4_8 : Int), f_X2_areUrns_o0o6_L8 μ fu8 x4_8 = some a → wx_ G X 151 ad (ceX G ad) μ 0 0 8 [(0, .ref (ad 0)), (2, .ref (ad 6)), (3, .int (iI 6)), (4, .int (iI x4_8))] [] := by
    intro fu8
    induction fu8 with
    | zero => intro x4_8 h; exact nn_ h
    | succ fu8 K8 =>
      intro x4_8 h
      rw [f_X2_areUrns_o0o6_L8] at h
      generalize f_X2_areUrns_o0o6_L8 μ fu8 = R8 at K8 h
      refine xx_iload C 10 rfl 3 dX2_areUrns_8 rfl ?_
      refine xx_iload_n C 11 rfl 2 dX2_areUrns_10 rfl rfl ?_
      refine xx_icmp_ge (tgt := 44) C 14 rfl dX2_areUrns_11 (by decide) h (fun h => ?_) (fun h => ?_)
      · refine xx_iconst C 45 rfl dX2_areUrns_44 ?_
        exact xx_zretl C E rfl rfl ⟨Nat.le_of_ble_eq_true rfl, Nat.le_of_ble_eq_true rfl⟩ dX2_areUrns_45 h
      · refine xx_aload_n C 15 rfl 1 dX2_areUrns_14 rfl rfl ?_
        refine xx_iload C 17 rfl 3 dX2_areUrns_15 rfl ?_
        refine xx_iaload C 18 rfl (by decide) (fun row => ceX_6 _ _ row) (by decide) dX2_areUrns_17 h (fun v17 h => ?_)
        refine xx_istore (lv1 := [(5, .int (iI v17)), (0, .ref (ad 0)), (2, .ref (ad 6)), (3, .int (iI 6)), (4, .int (iI x4_8))]) C 20 rfl (by decide) dX2_areUrns_18 rfl ?_
        refine xx_iload C 22 rfl 0 dX2_areUrns_20 rfl ?_
        refine xx_bipush C 24 rfl dX2_areUrns_22 (by decide) ?_
        refine jn_r (fun J => ∀ (_u : Unit), J _u = some a → wx_ G X 151 ad (ceX G ad) μ 0 0 38 [(0, .ref (ad 0)), (2, .ref (ad 6)), (3, .int (iI 6)), (4, .int (iI x4_8))] []) h (fun _ h => ?_) (fun J38 K38 h => ?_)
        · refine xx_iincn C 41 rfl 3 (by decide) dX2_areUrns_38 rfl h (fun n38 h => ?_)
          refine xx_lv (lv1 := [(4, .int (iI n38)), (0, .ref (ad 0)), (2, .ref (ad 6)), (3, .int (iI 6))]) rfl ?_
          refine xx_goto C 8 dX2_areUrns_41 (by decide) ?_
          refine xx_sub [1, 2, 3, 0] rfl ?_
          exact K8 n38 h
        · refine xx_icmp_eq (tgt := 38) C 27 rfl dX2_areUrns_24 (by decide) h (fun h => ?_) (fun h => ?_)
          · refine xx_sub [1, 2, 3, 4] rfl ?_
            exact K38 () h
          · refine xx_aload_n C 28 rfl 1 dX2_areUrns_27 rfl rfl ?_
            refine xx_iload C 30 rfl 0 dX2_areUrns_28 rfl ?_
            refine xx_cVip (As := [.int (iI v17)]) (st := []) (o := 0) C 33 rfl (by decide) (ceX_0 _ _ _) rfl rfl ca_X2_hasUrn cv_X2_hasUrn w_613 rfl ⟨Nat.le_of_ble_eq_true rfl, Nat.le_of_ble_eq_true rfl⟩ ⟨Nat.le_of_ble_eq_true rfl, Nat.le_of_ble_eq_true rfl⟩ (Nat.le_of_ble_eq_true rfl) dX2_areUrns_30 (fun v30 e9 => c_X2_hasUrn _ _ v30 e9) h (fun v30 h => ?_) rfl
            refine xx_if_ne (tgt := 38) C 36 rfl dX2_areUrns_33 (by decide) h (fun h => ?_) (fun h => ?_)
            · refine xx_sub [1, 2, 3, 4] rfl ?_
              exact K38 () h
            · refine xx_iconst C 37 rfl dX2_areUrns_36 ?_
              exact xx_zretl C E rfl rfl ⟨Nat.le_of_ble_eq_true rfl, Nat.le_of_ble_eq_true rfl⟩ dX2_areUrns_37 h
  refine xx_sub [3, 2, 1, 0] rfl ?_
  exact L8 _ _ h

def f_X2_hasBlackToWhite_L2 (μ : mu_T) : Nat → Int → Option Int
  | 0, _ => none
  | fu2 + 1, x1_2 => lt_ x1_2 96
      (dv_ x1_2 4 (fun v17 => rd_ μ 4 24 v17 (fun v18 => jn_ (φ := Unit → Option Int) (fun _ => nm_ (x1_2 + 1) (fun n38 => (f_X2_hasBlackToWhite_L2 μ fu2) n38))
      (fun J38 => eq_ v18 2
      (rd_ μ 1 96 x1_2 (fun v29 => bd_ (f_X2_isWhite μ v29) (fun v30 => eq_ v30 0
      (J38 ())
      (some 1))))
      (J38 ())))))
      (some 0)
def f_X2_hasBlackToWhite (μ : mu_T)  : Option Int :=
  f_X2_hasBlackToWhite_L2 μ 20000 0
set_option maxHeartbeats 4000000 in
set_option maxRecDepth 100000 in
theorem c_X2_hasBlackToWhite {G : gp_} {ad : Nat → Nat} (μ : mu_T)  (a : Int) (h : f_X2_hasBlackToWhite μ  = some a) : mi_ yX2_hasBlackToWhite cX2_hasBlackToWhite 2 (some .boolean) ({ frames := 1, cells := 0, slots := 0, locals := 21 } : Room) G 151 ad (ceX G ad) [.ref (ad 0)] μ a μ := by
  refine mi_in (own := "UrnHeap$Heap") (lv := [(0, .ref (ad 0))]) (by decide) rfl rfl (Nat.le_of_ble_eq_true rfl) (fun X C E => ?_)
  unfold f_X2_hasBlackToWhite at h
  refine xx_iconst C 1 rfl dX2_hasBlackToWhite_0 ?_
  refine xx_istore_n (lv1 := [(1, .int (iI 0)), (0, .ref (ad 0))]) C 2 rfl (by decide) dX2_hasBlackToWhite_1 rfl rfl ?_
  have L2 : ∀ (fu2 : Nat) (x1_2 : Int), f_X2_hasBlackToWhite_L2 μ fu2 x1_2 = some a → wx_ G X 151 ad (ceX G ad) μ 0 0 2 [(0, .ref (ad 0)), (1, .int (iI x1_2))] [] := by
    intro fu2
    induction fu2 with
    | zero => intro x1_2 h; exact nn_ h
    | succ fu2 K2 =>
      intro x1_2 h
      rw [f_X2_hasBlackToWhite_L2] at h
      generalize f_X2_hasBlackToWhite_L2 μ fu2 = R2 at K2 h
      refine xx_iload_n C 3 rfl 1 dX2_hasBlackToWhite_2 rfl rfl ?_
      refine xx_aload_n C 4 rfl 0 dX2_hasBlackToWhite_3 rfl rfl ?_
      refine xx_getr (fi := 0) C 7 rfl (by decide) (ceX_0 _ _ _) rfl in_X2 (by decide) rfl rfl w_135 dX2_hasBlackToWhite_4 ?_
      refine xx_alen (nA := 96) C 8 rfl (by decide) (fun row => ceX_1 _ _ row) dX2_hasBlackToWhite_7 ?_
      refine xx_icmp_ge (tgt := 44) C 11 rfl dX2_hasBlackToWhite_8 (by decide) h (fun h => ?_) (fun h => ?_)
      · refine xx_iconst C 45 rfl dX2_hasBlackToWhite_44 ?_
        exact xx_zretl C E rfl rfl ⟨Nat.le_of_ble_eq_true rfl, Nat.le_of_ble_eq_true rfl⟩ dX2_hasBlackToWhite_45 h
      · refine xx_aload_n C 12 rfl 0 dX2_hasBlackToWhite_11 rfl rfl ?_
        refine xx_getr (fi := 3) C 15 rfl (by decide) (ceX_0 _ _ _) rfl in_X2 (by decide) rfl rfl w_149 dX2_hasBlackToWhite_12 ?_
        refine xx_iload_n C 16 rfl 1 dX2_hasBlackToWhite_15 rfl rfl ?_
        refine xx_iconst C 17 rfl dX2_hasBlackToWhite_16 ?_
        refine xx_idiv C 18 rfl dX2_hasBlackToWhite_17 h (fun v17 h => ?_)
        refine xx_iaload C 19 rfl (by decide) (fun row => ceX_4 _ _ row) (by decide) dX2_hasBlackToWhite_18 h (fun v18 h => ?_)
        refine xx_iconst C 20 rfl dX2_hasBlackToWhite_19 ?_
        refine jn_r (fun J => ∀ (_u : Unit), J _u = some a → wx_ G X 151 ad (ceX G ad) μ 0 0 38 [(0, .ref (ad 0)), (1, .int (iI x1_2))] []) h (fun _ h => ?_) (fun J38 K38 h => ?_)
        · refine xx_iincn C 41 rfl 1 (by decide) dX2_hasBlackToWhite_38 rfl h (fun n38 h => ?_)
          refine xx_lv (lv1 := [(1, .int (iI n38)), (0, .ref (ad 0))]) rfl ?_
          refine xx_goto C 2 dX2_hasBlackToWhite_41 (by decide) ?_
          refine xx_sub [1, 0] rfl ?_
          exact K2 n38 h
        · refine xx_icmp_ne (tgt := 38) C 23 rfl dX2_hasBlackToWhite_20 (by decide) h (fun h => ?_) (fun h => ?_)
          · exact K38 () h
          · refine xx_aload_n C 24 rfl 0 dX2_hasBlackToWhite_23 rfl rfl ?_
            refine xx_aload_n C 25 rfl 0 dX2_hasBlackToWhite_24 rfl rfl ?_
            refine xx_getr (fi := 0) C 28 rfl (by decide) (ceX_0 _ _ _) rfl in_X2 (by decide) rfl rfl w_135 dX2_hasBlackToWhite_25 ?_
            refine xx_iload_n C 29 rfl 1 dX2_hasBlackToWhite_28 rfl rfl ?_
            refine xx_iaload C 30 rfl (by decide) (fun row => ceX_1 _ _ row) (by decide) dX2_hasBlackToWhite_29 h (fun v29 h => ?_)
            refine xx_cVip (As := [.int (iI v29)]) (st := []) (o := 0) C 33 rfl (by decide) (ceX_0 _ _ _) rfl rfl ca_X2_isWhite cv_X2_isWhite w_482 rfl ⟨Nat.le_of_ble_eq_true rfl, Nat.le_of_ble_eq_true rfl⟩ ⟨Nat.le_of_ble_eq_true rfl, Nat.le_of_ble_eq_true rfl⟩ (Nat.le_of_ble_eq_true rfl) dX2_hasBlackToWhite_30 (fun v30 e9 => c_X2_isWhite _ _ v30 e9) h (fun v30 h => ?_) rfl
            refine xx_if_eq (tgt := 38) C 36 rfl dX2_hasBlackToWhite_33 (by decide) h (fun h => ?_) (fun h => ?_)
            · exact K38 () h
            · refine xx_iconst C 37 rfl dX2_hasBlackToWhite_36 ?_
              exact xx_zretl C E rfl rfl ⟨Nat.le_of_ble_eq_true rfl, Nat.le_of_ble_eq_true rfl⟩ dX2_hasBlackToWhite_37 h
  refine xx_sub [1, 0] rfl ?_
  exact L2 _ _ h

def f_X2_isSound (μ : mu_T)  : Option Int :=
  nm_ (μ 0 12) (fun v1 => bd_ (f_X2_urns μ) (fun v5 => nm_ (μ 0 13) (fun v9 => eq_ v1 (v5 + v9)
      (bd_ (f_X2_areUrns_o0o1 μ) (fun v21 => eq_ v21 0
      (some 0)
      (bd_ (f_X2_areUrns_o0o2 μ) (fun v32 => eq_ v32 0
      (some 0)
      (bd_ (f_X2_areUrns_o0o6 μ) (fun v43 => eq_ v43 0
      (some 0)
      (nm_ (μ 0 9) (fun v50 => eq_ v50 1
      (bd_ (f_X2_hasBlackToWhite μ) (fun v58 => eq_ v58 0
      (some 1)
      (some 0)))
      (some 1)))))))))
      (some 0))))
set_option maxHeartbeats 4000000 in
set_option maxRecDepth 100000 in
theorem c_X2_isSound {G : gp_} {ad : Nat → Nat} (μ : mu_T)  (a : Int) (h : f_X2_isSound μ  = some a) : mi_ yX2_isSound cX2_isSound 1 (some .boolean) ({ frames := 2, cells := 0, slots := 0, locals := 46 } : Room) G 151 ad (ceX G ad) [.ref (ad 0)] μ a μ := by
  refine mi_in (own := "UrnHeap$Heap") (lv := [(0, .ref (ad 0))]) (by decide) rfl rfl (Nat.le_of_ble_eq_true rfl) (fun X C E => ?_)
  unfold f_X2_isSound at h
  refine xx_aload_n C 1 rfl 0 dX2_isSound_0 rfl rfl ?_
  refine xx_geti (fi := 12) (j := 12) C 4 rfl (by decide) (ceX_0 _ _ _) rfl in_X2 (by decide) rfl rfl w_181 dX2_isSound_1 h (fun v1 h => ?_)
  refine xx_aload_n C 5 rfl 0 dX2_isSound_4 rfl rfl ?_
  refine xx_cVip (As := []) (st := [.int (iI v1)]) (o := 0) C 8 rfl (by decide) (ceX_0 _ _ _) rfl rfl ca_X2_urns cv_X2_urns w_1104 rfl ⟨Nat.le_of_ble_eq_true rfl, Nat.le_of_ble_eq_true rfl⟩ ⟨Nat.le_of_ble_eq_true rfl, Nat.le_of_ble_eq_true rfl⟩ (Nat.le_of_ble_eq_true rfl) dX2_isSound_5 (fun v5 e9 => c_X2_urns _ v5 e9) h (fun v5 h => ?_) rfl
  refine xx_aload_n C 9 rfl 0 dX2_isSound_8 rfl rfl ?_
  refine xx_geti (fi := 13) (j := 13) C 12 rfl (by decide) (ceX_0 _ _ _) rfl in_X2 (by decide) rfl rfl w_184 dX2_isSound_9 h (fun v9 h => ?_)
  refine xx_iadd C 13 rfl dX2_isSound_12 ?_
  refine xx_icmp_ne (tgt := 68) C 16 rfl dX2_isSound_13 (by decide) h (fun h => ?_) (fun h => ?_)
  · refine xx_iconst C 69 rfl dX2_isSound_68 ?_
    exact xx_zretl C E rfl rfl ⟨Nat.le_of_ble_eq_true rfl, Nat.le_of_ble_eq_true rfl⟩ dX2_isSound_69 h
  · refine xx_aload_n C 17 rfl 0 dX2_isSound_16 rfl rfl ?_
    refine xx_aload_n C 18 rfl 0 dX2_isSound_17 rfl rfl ?_
    refine xx_getr (fi := 0) C 21 rfl (by decide) (ceX_0 _ _ _) rfl in_X2 (by decide) rfl rfl w_135 dX2_isSound_18 ?_
    refine xx_cVip (As := [.ref (ad 1)]) (st := []) (o := 0) C 24 rfl (by decide) (ceX_0 _ _ _) rfl rfl ca_X2_areUrns cv_X2_areUrns w_1105 rfl ⟨Nat.le_of_ble_eq_true rfl, Nat.le_of_ble_eq_true rfl⟩ ⟨Nat.le_of_ble_eq_true rfl, Nat.le_of_ble_eq_true rfl⟩ (Nat.le_of_ble_eq_true rfl) dX2_isSound_21 (fun v21 e9 => c_X2_areUrns_o0o1 _ v21 e9) h (fun v21 h => ?_) rfl
    refine xx_if_eq (tgt := 68) C 27 rfl dX2_isSound_24 (by decide) h (fun h => ?_) (fun h => ?_)
    · refine xx_iconst C 69 rfl dX2_isSound_68 ?_
      exact xx_zretl C E rfl rfl ⟨Nat.le_of_ble_eq_true rfl, Nat.le_of_ble_eq_true rfl⟩ dX2_isSound_69 h
    · refine xx_aload_n C 28 rfl 0 dX2_isSound_27 rfl rfl ?_
      refine xx_aload_n C 29 rfl 0 dX2_isSound_28 rfl rfl ?_
      refine xx_getr (fi := 1) C 32 rfl (by decide) (ceX_0 _ _ _) rfl in_X2 (by decide) rfl rfl w_138 dX2_isSound_29 ?_
      refine xx_cVip (As := [.ref (ad 2)]) (st := []) (o := 0) C 35 rfl (by decide) (ceX_0 _ _ _) rfl rfl ca_X2_areUrns cv_X2_areUrns w_1105 rfl ⟨Nat.le_of_ble_eq_true rfl, Nat.le_of_ble_eq_true rfl⟩ ⟨Nat.le_of_ble_eq_true rfl, Nat.le_of_ble_eq_true rfl⟩ (Nat.le_of_ble_eq_true rfl) dX2_isSound_32 (fun v32 e9 => c_X2_areUrns_o0o2 _ v32 e9) h (fun v32 h => ?_) rfl
      refine xx_if_eq (tgt := 68) C 38 rfl dX2_isSound_35 (by decide) h (fun h => ?_) (fun h => ?_)
      · refine xx_iconst C 69 rfl dX2_isSound_68 ?_
        exact xx_zretl C E rfl rfl ⟨Nat.le_of_ble_eq_true rfl, Nat.le_of_ble_eq_true rfl⟩ dX2_isSound_69 h
      · refine xx_aload_n C 39 rfl 0 dX2_isSound_38 rfl rfl ?_
        refine xx_aload_n C 40 rfl 0 dX2_isSound_39 rfl rfl ?_
        refine xx_getr (fi := 5) C 43 rfl (by decide) (ceX_0 _ _ _) rfl in_X2 (by decide) rfl rfl w_157 dX2_isSound_40 ?_
        refine xx_cVip (As := [.ref (ad 6)]) (st := []) (o := 0) C 46 rfl (by decide) (ceX_0 _ _ _) rfl rfl ca_X2_areUrns cv_X2_areUrns w_1105 rfl ⟨Nat.le_of_ble_eq_true rfl, Nat.le_of_ble_eq_true rfl⟩ ⟨Nat.le_of_ble_eq_true rfl, Nat.le_of_ble_eq_true rfl⟩ (Nat.le_of_ble_eq_true rfl) dX2_isSound_43 (fun v43 e9 => c_X2_areUrns_o0o6 _ v43 e9) h (fun v43 h => ?_) rfl
        refine xx_if_eq (tgt := 68) C 49 rfl dX2_isSound_46 (by decide) h (fun h => ?_) (fun h => ?_)
        · refine xx_iconst C 69 rfl dX2_isSound_68 ?_
          exact xx_zretl C E rfl rfl ⟨Nat.le_of_ble_eq_true rfl, Nat.le_of_ble_eq_true rfl⟩ dX2_isSound_69 h
        · refine xx_aload_n C 50 rfl 0 dX2_isSound_49 rfl rfl ?_
          refine xx_geti (fi := 9) (j := 9) C 53 rfl (by decide) (ceX_0 _ _ _) rfl in_X2 (by decide) rfl rfl w_169 dX2_isSound_50 h (fun v50 h => ?_)
          refine xx_iconst C 54 rfl dX2_isSound_53 ?_
          refine xx_icmp_ne (tgt := 64) C 57 rfl dX2_isSound_54 (by decide) h (fun h => ?_) (fun h => ?_)
          · refine xx_iconst C 65 rfl dX2_isSound_64 ?_
            refine xx_goto C 69 dX2_isSound_65 (by decide) ?_
            exact xx_zretl C E rfl rfl ⟨Nat.le_of_ble_eq_true rfl, Nat.le_of_ble_eq_true rfl⟩ dX2_isSound_69 h
          · refine xx_aload_n C 58 rfl 0 dX2_isSound_57 rfl rfl ?_
            refine xx_cVip (As := []) (st := []) (o := 0) C 61 rfl (by decide) (ceX_0 _ _ _) rfl rfl ca_X2_hasBlackToWhite cv_X2_hasBlackToWhite w_1109 rfl ⟨Nat.le_of_ble_eq_true rfl, Nat.le_of_ble_eq_true rfl⟩ ⟨Nat.le_of_ble_eq_true rfl, Nat.le_of_ble_eq_true rfl⟩ (Nat.le_of_ble_eq_true rfl) dX2_isSound_58 (fun v58 e9 => c_X2_hasBlackToWhite _ v58 e9) h (fun v58 h => ?_) rfl
            refine xx_if_ne (tgt := 68) C 64 rfl dX2_isSound_61 (by decide) h (fun h => ?_) (fun h => ?_)
            · refine xx_iconst C 69 rfl dX2_isSound_68 ?_
              exact xx_zretl C E rfl rfl ⟨Nat.le_of_ble_eq_true rfl, Nat.le_of_ble_eq_true rfl⟩ dX2_isSound_69 h
            · refine xx_iconst C 65 rfl dX2_isSound_64 ?_
              refine xx_goto C 69 dX2_isSound_65 (by decide) ?_
              exact xx_zretl C E rfl rfl ⟨Nat.le_of_ble_eq_true rfl, Nat.le_of_ble_eq_true rfl⟩ dX2_isSound_69 h

def f_X3_isRefusal (μ : mu_T) (a0 : Int) : Option Int :=
  eq_ a0 (-11)
      (some 1)
      (eq_ a0 (-12)
      (some 1)
      (eq_ a0 (-14)
      (some 1)
      (some 0)))
set_option maxHeartbeats 4000000 in
set_option maxRecDepth 100000 in
theorem c_X3_isRefusal {G : gp_} {ad : Nat → Nat} (μ : mu_T) (a0 : Int) (a : Int) (h : f_X3_isRefusal μ a0 = some a) : mi_ yX3_isRefusal cX3_isRefusal 1 (some .boolean) ({ frames := 0, cells := 0, slots := 0, locals := 0 } : Room) G 151 ad (ceX G ad) [.int (iI a0)] μ a μ := by
  refine mi_in (own := "UrnHeap$History") (lv := [(0, .int (iI a0))]) (by decide) rfl rfl (Nat.le_of_ble_eq_true rfl) (fun X C E => ?_)
  unfold f_X3_isRefusal at h
  refine xx_iload_n C 1 rfl 0 dX3_isRefusal_0 rfl rfl ?_
  refine xx_bipush C 3 rfl dX3_isRefusal_1 (by decide) ?_
  refine xx_icmp_eq (tgt := 18) C 6 rfl dX3_isRefusal_3 (by decide) h (fun h => ?_) (fun h => ?_)
  · refine xx_iconst C 19 rfl dX3_isRefusal_18 ?_
    refine xx_goto C 23 dX3_isRefusal_19 (by decide) ?_
    exact xx_zretl C E rfl rfl ⟨Nat.le_of_ble_eq_true rfl, Nat.le_of_ble_eq_true rfl⟩ dX3_isRefusal_23 h
  · refine xx_iload_n C 7 rfl 0 dX3_isRefusal_6 rfl rfl ?_
    refine xx_bipush C 9 rfl dX3_isRefusal_7 (by decide) ?_
    refine xx_icmp_eq (tgt := 18) C 12 rfl dX3_isRefusal_9 (by decide) h (fun h => ?_) (fun h => ?_)
    · refine xx_iconst C 19 rfl dX3_isRefusal_18 ?_
      refine xx_goto C 23 dX3_isRefusal_19 (by decide) ?_
      exact xx_zretl C E rfl rfl ⟨Nat.le_of_ble_eq_true rfl, Nat.le_of_ble_eq_true rfl⟩ dX3_isRefusal_23 h
    · refine xx_iload_n C 13 rfl 0 dX3_isRefusal_12 rfl rfl ?_
      refine xx_bipush C 15 rfl dX3_isRefusal_13 (by decide) ?_
      refine xx_icmp_ne (tgt := 22) C 18 rfl dX3_isRefusal_15 (by decide) h (fun h => ?_) (fun h => ?_)
      · refine xx_iconst C 23 rfl dX3_isRefusal_22 ?_
        exact xx_zretl C E rfl rfl ⟨Nat.le_of_ble_eq_true rfl, Nat.le_of_ble_eq_true rfl⟩ dX3_isRefusal_23 h
      · refine xx_iconst C 19 rfl dX3_isRefusal_18 ?_
        refine xx_goto C 23 dX3_isRefusal_19 (by decide) ?_
        exact xx_zretl C E rfl rfl ⟨Nat.le_of_ble_eq_true rfl, Nat.le_of_ble_eq_true rfl⟩ dX3_isRefusal_23 h

def f_X9_copyFrom_h8h8 (μ : mu_T) (i0 : Nat) (i1 : Nat) : Option mu_T :=
  ac_ μ (12 * i1 + 9) 24 0 (12 * i0 + 9) 24 0 24 (fun μ12 => nm_ (μ12 (12 * i1 + 8) 1) (fun v17 => wf_ μ12 (12 * i0 + 8) 1 v17 (fun μ20 => some μ20)))
set_option maxHeartbeats 4000000 in
set_option maxRecDepth 100000 in
theorem c_X9_copyFrom_h8h8 {G : gp_} {ad : Nat → Nat} (μ : mu_T) (i0 : Nat) (hi0 : i0 < 11) (i1 : Nat) (hi1 : i1 < 11) (μr : mu_T) (h : f_X9_copyFrom_h8h8 μ i0 i1 = some μr) : mv_ yX9_copyFrom cX9_copyFrom 2 ({ frames := 1, cells := 0, slots := 0, locals := 18 } : Room) G 151 ad (ceX G ad) [.ref (ad (12 * i0 + 8)), .ref (ad (12 * i1 + 8))] μ μr := by
  refine mv_in (own := "UrnHeap$Row") (lv := [(0, .ref (ad (12 * i0 + 8))), (1, .ref (ad (12 * i1 + 8)))]) (by decide) rfl rfl (Nat.le_of_ble_eq_true rfl) (fun X C E => ?_)
  unfold f_X9_copyFrom_h8h8 at h
  refine xx_aload_n C 1 rfl 1 dX9_copyFrom_0 rfl rfl ?_
  refine xx_getr (fi := 0) C 4 rfl (by omega) (ceXh_8 _ _ _ i1 (by omega)) rfl in_X9 (by decide) rfl rfl w_122 dX9_copyFrom_1 ?_
  refine xx_iconst C 5 rfl dX9_copyFrom_4 ?_
  refine xx_aload_n C 6 rfl 0 dX9_copyFrom_5 rfl rfl ?_
  refine xx_getr (fi := 0) C 9 rfl (by omega) (ceXh_8 _ _ _ i0 (by omega)) rfl in_X9 (by decide) rfl rfl w_122 dX9_copyFrom_6 ?_
  refine xx_iconst C 10 rfl dX9_copyFrom_9 ?_
  refine xx_bipush C 12 rfl dX9_copyFrom_10 (by decide) ?_
  refine xx_acopy C 15 rfl (by omega) (fun row => ceXh_9 _ _ row i1 (by omega)) (by omega) (fun row => ceXh_9 _ _ row i0 (by omega)) (by decide) ⟨w_440, w_435, w_434, w_92⟩ ⟨Nat.le_of_ble_eq_true rfl, Nat.le_of_ble_eq_true rfl⟩ dX9_copyFrom_12 h (fun μ12 h => ?_)
  refine xx_aload_n C 16 rfl 0 dX9_copyFrom_15 rfl rfl ?_
  refine xx_aload_n C 17 rfl 1 dX9_copyFrom_16 rfl rfl ?_
  refine xx_geti (fi := 1) (j := 1) C 20 rfl (by omega) (ceXh_8 _ _ _ i1 (by omega)) rfl in_X9 (by decide) rfl rfl w_123 dX9_copyFrom_17 h (fun v17 h => ?_)
  refine xx_puti (fi := 1) (j := 1) C 23 rfl (by omega) (ceXh_8 _ _ _ i0 (by omega)) (puXh_8_1 _ _ _ _ i0 (by omega)) rfl in_X9 tyX9 tyX9_ok nmX9 (by decide) (Nat.le_of_ble_eq_true rfl) ⟨rfl, rfl, rfl⟩ w_123 dX9_copyFrom_20 h (fun μ20 h => ?_)
  exact xx_vret C E rfl ⟨Nat.le_of_ble_eq_true rfl, Nat.le_of_ble_eq_true rfl⟩ dX9_copyFrom_23 h

def f_X9_copyFrom_h10h10 (μ : mu_T) (i0 : Nat) (i1 : Nat) : Option mu_T :=
  ac_ μ (12 * i1 + 11) 24 0 (12 * i0 + 11) 24 0 24 (fun μ12 => nm_ (μ12 (12 * i1 + 10) 1) (fun v17 => wf_ μ12 (12 * i0 + 10) 1 v17 (fun μ20 => some μ20)))
set_option maxHeartbeats 4000000 in
set_option maxRecDepth 100000 in
theorem c_X9_copyFrom_h10h10 {G : gp_} {ad : Nat → Nat} (μ : mu_T) (i0 : Nat) (hi0 : i0 < 11) (i1 : Nat) (hi1 : i1 < 11) (μr : mu_T) (h : f_X9_copyFrom_h10h10 μ i0 i1 = some μr) : mv_ yX9_copyFrom cX9_copyFrom 2 ({ frames := 1, cells := 0, slots := 0, locals := 18 } : Room) G 151 ad (ceX G ad) [.ref (ad (12 * i0 + 10)), .ref (ad (12 * i1 + 10))] μ μr := by
  refine mv_in (own := "UrnHeap$Row") (lv := [(0, .ref (ad (12 * i0 + 10))), (1, .ref (ad (12 * i1 + 10)))]) (by decide) rfl rfl (Nat.le_of_ble_eq_true rfl) (fun X C E => ?_)
  unfold f_X9_copyFrom_h10h10 at h
  refine xx_aload_n C 1 rfl 1 dX9_copyFrom_0 rfl rfl ?_
  refine xx_getr (fi := 0) C 4 rfl (by omega) (ceXh_10 _ _ _ i1 (by omega)) rfl in_X9 (by decide) rfl rfl w_122 dX9_copyFrom_1 ?_
  refine xx_iconst C 5 rfl dX9_copyFrom_4 ?_
  refine xx_aload_n C 6 rfl 0 dX9_copyFrom_5 rfl rfl ?_
  refine xx_getr (fi := 0) C 9 rfl (by omega) (ceXh_10 _ _ _ i0 (by omega)) rfl in_X9 (by decide) rfl rfl w_122 dX9_copyFrom_6 ?_
  refine xx_iconst C 10 rfl dX9_copyFrom_9 ?_
  refine xx_bipush C 12 rfl dX9_copyFrom_10 (by decide) ?_
  refine xx_acopy C 15 rfl (by omega) (fun row => ceXh_11 _ _ row i1 (by omega)) (by omega) (fun row => ceXh_11 _ _ row i0 (by omega)) (by decide) ⟨w_440, w_435, w_434, w_92⟩ ⟨Nat.le_of_ble_eq_true rfl, Nat.le_of_ble_eq_true rfl⟩ dX9_copyFrom_12 h (fun μ12 h => ?_)
  refine xx_aload_n C 16 rfl 0 dX9_copyFrom_15 rfl rfl ?_
  refine xx_aload_n C 17 rfl 1 dX9_copyFrom_16 rfl rfl ?_
  refine xx_geti (fi := 1) (j := 1) C 20 rfl (by omega) (ceXh_10 _ _ _ i1 (by omega)) rfl in_X9 (by decide) rfl rfl w_123 dX9_copyFrom_17 h (fun v17 h => ?_)
  refine xx_puti (fi := 1) (j := 1) C 23 rfl (by omega) (ceXh_10 _ _ _ i0 (by omega)) (puXh_10_1 _ _ _ _ i0 (by omega)) rfl in_X9 tyX9 tyX9_ok nmX9 (by decide) (Nat.le_of_ble_eq_true rfl) ⟨rfl, rfl, rfl⟩ w_123 dX9_copyFrom_20 h (fun μ20 h => ?_)
  exact xx_vret C E rfl ⟨Nat.le_of_ble_eq_true rfl, Nat.le_of_ble_eq_true rfl⟩ dX9_copyFrom_23 h

def f_X2_copyFrom_h0h0 (μ : mu_T) (i0 : Nat) (i1 : Nat) : Option mu_T :=
  ac_ μ (12 * i1 + 1) 96 0 (12 * i0 + 1) 96 0 96 (fun μ12 => ac_ μ12 (12 * i1 + 2) 24 0 (12 * i0 + 2) 24 0 24 (fun μ27 => ac_ μ27 (12 * i1 + 3) 24 0 (12 * i0 + 3) 24 0 24 (fun μ42 => ac_ μ42 (12 * i1 + 4) 24 0 (12 * i0 + 4) 24 0 24 (fun μ57 => ac_ μ57 (12 * i1 + 5) 24 0 (12 * i0 + 5) 24 0 24 (fun μ72 => ac_ μ72 (12 * i1 + 6) 6 0 (12 * i0 + 6) 6 0 6 (fun μ87 => ac_ μ87 (12 * i1 + 7) 12 0 (12 * i0 + 7) 12 0 12 (fun μ102 => bd_ (f_X9_copyFrom_h8h8 μ102 i0 i1) (fun μ113 => bd_ (f_X9_copyFrom_h10h10 μ113 i0 i1) (fun μ124 => nm_ (μ124 (12 * i1 + 0) 9) (fun v129 => wf_ μ124 (12 * i0 + 0) 9 v129 (fun μ132 => nm_ (μ132 (12 * i1 + 0) 10) (fun v137 => wf_ μ132 (12 * i0 + 0) 10 v137 (fun μ140 => nm_ (μ140 (12 * i1 + 0) 11) (fun v145 => wf_ μ140 (12 * i0 + 0) 11 v145 (fun μ148 => nm_ (μ148 (12 * i1 + 0) 12) (fun v153 => wf_ μ148 (12 * i0 + 0) 12 v153 (fun μ156 => nm_ (μ156 (12 * i1 + 0) 13) (fun v161 => wf_ μ156 (12 * i0 + 0) 13 v161 (fun μ164 => nm_ (μ164 (12 * i1 + 0) 14) (fun v169 => wf_ μ164 (12 * i0 + 0) 14 v169 (fun μ172 => nm_ (μ172 (12 * i1 + 0) 15) (fun v177 => wf_ μ172 (12 * i0 + 0) 15 v177 (fun μ180 => nm_ (μ180 (12 * i1 + 0) 16) (fun v185 => wf_ μ180 (12 * i0 + 0) 16 v185 (fun μ188 => some μ188)))))))))))))))))))))))))
set_option maxHeartbeats 4000000 in
set_option maxRecDepth 100000 in
theorem c_X2_copyFrom_h0h0 {G : gp_} {ad : Nat → Nat} (μ : mu_T) (i0 : Nat) (hi0 : i0 < 11) (i1 : Nat) (hi1 : i1 < 11) (μr : mu_T) (h : f_X2_copyFrom_h0h0 μ i0 i1 = some μr) : mv_ yX2_copyFrom cX2_copyFrom 2 ({ frames := 2, cells := 0, slots := 0, locals := 39 } : Room) G 151 ad (ceX G ad) [.ref (ad (12 * i0 + 0)), .ref (ad (12 * i1 + 0))] μ μr := by
  refine mv_in (own := "UrnHeap$Heap") (lv := [(0, .ref (ad (12 * i0 + 0))), (1, .ref (ad (12 * i1 + 0)))]) (by decide) rfl rfl (Nat.le_of_ble_eq_true rfl) (fun X C E => ?_)
  unfold f_X2_copyFrom_h0h0 at h
  refine xx_aload_n C 1 rfl 1 dX2_copyFrom_0 rfl rfl ?_
  refine xx_getr (fi := 0) C 4 rfl (by omega) (ceXh_0 _ _ _ i1 (by omega)) rfl in_X2 (by decide) rfl rfl w_135 dX2_copyFrom_1 ?_
  refine xx_iconst C 5 rfl dX2_copyFrom_4 ?_
  refine xx_aload_n C 6 rfl 0 dX2_copyFrom_5 rfl rfl ?_
  refine xx_getr (fi := 0) C 9 rfl (by omega) (ceXh_0 _ _ _ i0 (by omega)) rfl in_X2 (by decide) rfl rfl w_135 dX2_copyFrom_6 ?_
  refine xx_iconst C 10 rfl dX2_copyFrom_9 ?_
  refine xx_bipush C 12 rfl dX2_copyFrom_10 (by decide) ?_
  refine xx_acopy C 15 rfl (by omega) (fun row => ceXh_1 _ _ row i1 (by omega)) (by omega) (fun row => ceXh_1 _ _ row i0 (by omega)) (by decide) ⟨w_433, w_435, w_434, w_92⟩ ⟨Nat.le_of_ble_eq_true rfl, Nat.le_of_ble_eq_true rfl⟩ dX2_copyFrom_12 h (fun μ12 h => ?_)
  refine xx_aload_n C 16 rfl 1 dX2_copyFrom_15 rfl rfl ?_
  refine xx_getr (fi := 1) C 19 rfl (by omega) (ceXh_0 _ _ _ i1 (by omega)) rfl in_X2 (by decide) rfl rfl w_138 dX2_copyFrom_16 ?_
  refine xx_iconst C 20 rfl dX2_copyFrom_19 ?_
  refine xx_aload_n C 21 rfl 0 dX2_copyFrom_20 rfl rfl ?_
  refine xx_getr (fi := 1) C 24 rfl (by omega) (ceXh_0 _ _ _ i0 (by omega)) rfl in_X2 (by decide) rfl rfl w_138 dX2_copyFrom_21 ?_
  refine xx_iconst C 25 rfl dX2_copyFrom_24 ?_
  refine xx_bipush C 27 rfl dX2_copyFrom_25 (by decide) ?_
  refine xx_acopy C 30 rfl (by omega) (fun row => ceXh_2 _ _ row i1 (by omega)) (by omega) (fun row => ceXh_2 _ _ row i0 (by omega)) (by decide) ⟨w_433, w_435, w_434, w_92⟩ ⟨Nat.le_of_ble_eq_true rfl, Nat.le_of_ble_eq_true rfl⟩ dX2_copyFrom_27 h (fun μ27 h => ?_)
  refine xx_aload_n C 31 rfl 1 dX2_copyFrom_30 rfl rfl ?_
  refine xx_getr (fi := 2) C 34 rfl (by omega) (ceXh_0 _ _ _ i1 (by omega)) rfl in_X2 (by decide) rfl rfl w_143 dX2_copyFrom_31 ?_
  refine xx_iconst C 35 rfl dX2_copyFrom_34 ?_
  refine xx_aload_n C 36 rfl 0 dX2_copyFrom_35 rfl rfl ?_
  refine xx_getr (fi := 2) C 39 rfl (by omega) (ceXh_0 _ _ _ i0 (by omega)) rfl in_X2 (by decide) rfl rfl w_143 dX2_copyFrom_36 ?_
  refine xx_iconst C 40 rfl dX2_copyFrom_39 ?_
  refine xx_bipush C 42 rfl dX2_copyFrom_40 (by decide) ?_
  refine xx_acopy C 45 rfl (by omega) (fun row => ceXh_3 _ _ row i1 (by omega)) (by omega) (fun row => ceXh_3 _ _ row i0 (by omega)) (by decide) ⟨w_433, w_435, w_434, w_92⟩ ⟨Nat.le_of_ble_eq_true rfl, Nat.le_of_ble_eq_true rfl⟩ dX2_copyFrom_42 h (fun μ42 h => ?_)
  refine xx_aload_n C 46 rfl 1 dX2_copyFrom_45 rfl rfl ?_
  refine xx_getr (fi := 3) C 49 rfl (by omega) (ceXh_0 _ _ _ i1 (by omega)) rfl in_X2 (by decide) rfl rfl w_149 dX2_copyFrom_46 ?_
  refine xx_iconst C 50 rfl dX2_copyFrom_49 ?_
  refine xx_aload_n C 51 rfl 0 dX2_copyFrom_50 rfl rfl ?_
  refine xx_getr (fi := 3) C 54 rfl (by omega) (ceXh_0 _ _ _ i0 (by omega)) rfl in_X2 (by decide) rfl rfl w_149 dX2_copyFrom_51 ?_
  refine xx_iconst C 55 rfl dX2_copyFrom_54 ?_
  refine xx_bipush C 57 rfl dX2_copyFrom_55 (by decide) ?_
  refine xx_acopy C 60 rfl (by omega) (fun row => ceXh_4 _ _ row i1 (by omega)) (by omega) (fun row => ceXh_4 _ _ row i0 (by omega)) (by decide) ⟨w_433, w_435, w_434, w_92⟩ ⟨Nat.le_of_ble_eq_true rfl, Nat.le_of_ble_eq_true rfl⟩ dX2_copyFrom_57 h (fun μ57 h => ?_)
  refine xx_aload_n C 61 rfl 1 dX2_copyFrom_60 rfl rfl ?_
  refine xx_getr (fi := 4) C 64 rfl (by omega) (ceXh_0 _ _ _ i1 (by omega)) rfl in_X2 (by decide) rfl rfl w_154 dX2_copyFrom_61 ?_
  refine xx_iconst C 65 rfl dX2_copyFrom_64 ?_
  refine xx_aload_n C 66 rfl 0 dX2_copyFrom_65 rfl rfl ?_
  refine xx_getr (fi := 4) C 69 rfl (by omega) (ceXh_0 _ _ _ i0 (by omega)) rfl in_X2 (by decide) rfl rfl w_154 dX2_copyFrom_66 ?_
  refine xx_iconst C 70 rfl dX2_copyFrom_69 ?_
  refine xx_bipush C 72 rfl dX2_copyFrom_70 (by decide) ?_
  refine xx_acopy C 75 rfl (by omega) (fun row => ceXh_5 _ _ row i1 (by omega)) (by omega) (fun row => ceXh_5 _ _ row i0 (by omega)) (by decide) ⟨w_433, w_435, w_434, w_92⟩ ⟨Nat.le_of_ble_eq_true rfl, Nat.le_of_ble_eq_true rfl⟩ dX2_copyFrom_72 h (fun μ72 h => ?_)
  refine xx_aload_n C 76 rfl 1 dX2_copyFrom_75 rfl rfl ?_
  refine xx_getr (fi := 5) C 79 rfl (by omega) (ceXh_0 _ _ _ i1 (by omega)) rfl in_X2 (by decide) rfl rfl w_157 dX2_copyFrom_76 ?_
  refine xx_iconst C 80 rfl dX2_copyFrom_79 ?_
  refine xx_aload_n C 81 rfl 0 dX2_copyFrom_80 rfl rfl ?_
  refine xx_getr (fi := 5) C 84 rfl (by omega) (ceXh_0 _ _ _ i0 (by omega)) rfl in_X2 (by decide) rfl rfl w_157 dX2_copyFrom_81 ?_
  refine xx_iconst C 85 rfl dX2_copyFrom_84 ?_
  refine xx_bipush C 87 rfl dX2_copyFrom_85 (by decide) ?_
  refine xx_acopy C 90 rfl (by omega) (fun row => ceXh_6 _ _ row i1 (by omega)) (by omega) (fun row => ceXh_6 _ _ row i0 (by omega)) (by decide) ⟨w_433, w_435, w_434, w_92⟩ ⟨Nat.le_of_ble_eq_true rfl, Nat.le_of_ble_eq_true rfl⟩ dX2_copyFrom_87 h (fun μ87 h => ?_)
  refine xx_aload_n C 91 rfl 1 dX2_copyFrom_90 rfl rfl ?_
  refine xx_getr (fi := 6) C 94 rfl (by omega) (ceXh_0 _ _ _ i1 (by omega)) rfl in_X2 (by decide) rfl rfl w_162 dX2_copyFrom_91 ?_
  refine xx_iconst C 95 rfl dX2_copyFrom_94 ?_
  refine xx_aload_n C 96 rfl 0 dX2_copyFrom_95 rfl rfl ?_
  refine xx_getr (fi := 6) C 99 rfl (by omega) (ceXh_0 _ _ _ i0 (by omega)) rfl in_X2 (by decide) rfl rfl w_162 dX2_copyFrom_96 ?_
  refine xx_iconst C 100 rfl dX2_copyFrom_99 ?_
  refine xx_bipush C 102 rfl dX2_copyFrom_100 (by decide) ?_
  refine xx_acopy C 105 rfl (by omega) (fun row => ceXh_7 _ _ row i1 (by omega)) (by omega) (fun row => ceXh_7 _ _ row i0 (by omega)) (by decide) ⟨w_433, w_435, w_434, w_92⟩ ⟨Nat.le_of_ble_eq_true rfl, Nat.le_of_ble_eq_true rfl⟩ dX2_copyFrom_102 h (fun μ102 h => ?_)
  refine xx_aload_n C 106 rfl 0 dX2_copyFrom_105 rfl rfl ?_
  refine xx_getr (fi := 7) C 109 rfl (by omega) (ceXh_0 _ _ _ i0 (by omega)) rfl in_X2 (by decide) rfl rfl w_163 dX2_copyFrom_106 ?_
  refine xx_aload_n C 110 rfl 1 dX2_copyFrom_109 rfl rfl ?_
  refine xx_getr (fi := 7) C 113 rfl (by omega) (ceXh_0 _ _ _ i1 (by omega)) rfl in_X2 (by decide) rfl rfl w_163 dX2_copyFrom_110 ?_
  refine xx_cVv (As := [.ref (ad (12 * i1 + 8))]) (st := []) (o := (12 * i0 + 8)) C 116 rfl (by omega) (ceXh_8 _ _ _ i0 (by omega)) rfl rfl ca_X9_copyFrom cv_X9_copyFrom w_436 rfl ⟨Nat.le_of_ble_eq_true rfl, Nat.le_of_ble_eq_true rfl⟩ ⟨Nat.le_of_ble_eq_true rfl, Nat.le_of_ble_eq_true rfl⟩ (Nat.le_of_ble_eq_true rfl) dX2_copyFrom_113 (fun μ113 e9 => c_X9_copyFrom_h8h8 _ i0 (by omega) i1 (by omega) μ113 e9) h (fun μ113 h => ?_) rfl
  refine xx_aload_n C 117 rfl 0 dX2_copyFrom_116 rfl rfl ?_
  refine xx_getr (fi := 8) C 120 rfl (by omega) (ceXh_0 _ _ _ i0 (by omega)) rfl in_X2 (by decide) rfl rfl w_166 dX2_copyFrom_117 ?_
  refine xx_aload_n C 121 rfl 1 dX2_copyFrom_120 rfl rfl ?_
  refine xx_getr (fi := 8) C 124 rfl (by omega) (ceXh_0 _ _ _ i1 (by omega)) rfl in_X2 (by decide) rfl rfl w_166 dX2_copyFrom_121 ?_
  refine xx_cVv (As := [.ref (ad (12 * i1 + 10))]) (st := []) (o := (12 * i0 + 10)) C 127 rfl (by omega) (ceXh_10 _ _ _ i0 (by omega)) rfl rfl ca_X9_copyFrom cv_X9_copyFrom w_436 rfl ⟨Nat.le_of_ble_eq_true rfl, Nat.le_of_ble_eq_true rfl⟩ ⟨Nat.le_of_ble_eq_true rfl, Nat.le_of_ble_eq_true rfl⟩ (Nat.le_of_ble_eq_true rfl) dX2_copyFrom_124 (fun μ124 e9 => c_X9_copyFrom_h10h10 _ i0 (by omega) i1 (by omega) μ124 e9) h (fun μ124 h => ?_) rfl
  refine xx_aload_n C 128 rfl 0 dX2_copyFrom_127 rfl rfl ?_
  refine xx_aload_n C 129 rfl 1 dX2_copyFrom_128 rfl rfl ?_
  refine xx_geti (fi := 9) (j := 9) C 132 rfl (by omega) (ceXh_0 _ _ _ i1 (by omega)) rfl in_X2 (by decide) rfl rfl w_169 dX2_copyFrom_129 h (fun v129 h => ?_)
  refine xx_puti (fi := 9) (j := 9) C 135 rfl (by omega) (ceXh_0 _ _ _ i0 (by omega)) (puXh_0_9 _ _ _ _ i0 (by omega)) rfl in_X2 tyX2 tyX2_ok nmX2 (by decide) (Nat.le_of_ble_eq_true rfl) ⟨rfl, rfl, rfl⟩ w_169 dX2_copyFrom_132 h (fun μ132 h => ?_)
  refine xx_aload_n C 136 rfl 0 dX2_copyFrom_135 rfl rfl ?_
  refine xx_aload_n C 137 rfl 1 dX2_copyFrom_136 rfl rfl ?_
  refine xx_geti (fi := 10) (j := 10) C 140 rfl (by omega) (ceXh_0 _ _ _ i1 (by omega)) rfl in_X2 (by decide) rfl rfl w_173 dX2_copyFrom_137 h (fun v137 h => ?_)
  refine xx_puti (fi := 10) (j := 10) C 143 rfl (by omega) (ceXh_0 _ _ _ i0 (by omega)) (puXh_0_10 _ _ _ _ i0 (by omega)) rfl in_X2 tyX2 tyX2_ok nmX2 (by decide) (Nat.le_of_ble_eq_true rfl) ⟨rfl, rfl, rfl⟩ w_173 dX2_copyFrom_140 h (fun μ140 h => ?_)
  refine xx_aload_n C 144 rfl 0 dX2_copyFrom_143 rfl rfl ?_
  refine xx_aload_n C 145 rfl 1 dX2_copyFrom_144 rfl rfl ?_
  refine xx_geti (fi := 11) (j := 11) C 148 rfl (by omega) (ceXh_0 _ _ _ i1 (by omega)) rfl in_X2 (by decide) rfl rfl w_177 dX2_copyFrom_145 h (fun v145 h => ?_)
  refine xx_puti (fi := 11) (j := 11) C 151 rfl (by omega) (ceXh_0 _ _ _ i0 (by omega)) (puXh_0_11 _ _ _ _ i0 (by omega)) rfl in_X2 tyX2 tyX2_ok nmX2 (by decide) (Nat.le_of_ble_eq_true rfl) ⟨rfl, rfl, rfl⟩ w_177 dX2_copyFrom_148 h (fun μ148 h => ?_)
  refine xx_aload_n C 152 rfl 0 dX2_copyFrom_151 rfl rfl ?_
  refine xx_aload_n C 153 rfl 1 dX2_copyFrom_152 rfl rfl ?_
  refine xx_geti (fi := 12) (j := 12) C 156 rfl (by omega) (ceXh_0 _ _ _ i1 (by omega)) rfl in_X2 (by decide) rfl rfl w_181 dX2_copyFrom_153 h (fun v153 h => ?_)
  refine xx_puti (fi := 12) (j := 12) C 159 rfl (by omega) (ceXh_0 _ _ _ i0 (by omega)) (puXh_0_12 _ _ _ _ i0 (by omega)) rfl in_X2 tyX2 tyX2_ok nmX2 (by decide) (Nat.le_of_ble_eq_true rfl) ⟨rfl, rfl, rfl⟩ w_181 dX2_copyFrom_156 h (fun μ156 h => ?_)
  refine xx_aload_n C 160 rfl 0 dX2_copyFrom_159 rfl rfl ?_
  refine xx_aload_n C 161 rfl 1 dX2_copyFrom_160 rfl rfl ?_
  refine xx_geti (fi := 13) (j := 13) C 164 rfl (by omega) (ceXh_0 _ _ _ i1 (by omega)) rfl in_X2 (by decide) rfl rfl w_184 dX2_copyFrom_161 h (fun v161 h => ?_)
  refine xx_puti (fi := 13) (j := 13) C 167 rfl (by omega) (ceXh_0 _ _ _ i0 (by omega)) (puXh_0_13 _ _ _ _ i0 (by omega)) rfl in_X2 tyX2 tyX2_ok nmX2 (by decide) (Nat.le_of_ble_eq_true rfl) ⟨rfl, rfl, rfl⟩ w_184 dX2_copyFrom_164 h (fun μ164 h => ?_)
  refine xx_aload_n C 168 rfl 0 dX2_copyFrom_167 rfl rfl ?_
  refine xx_aload_n C 169 rfl 1 dX2_copyFrom_168 rfl rfl ?_
  refine xx_geti (fi := 14) (j := 14) C 172 rfl (by omega) (ceXh_0 _ _ _ i1 (by omega)) rfl in_X2 (by decide) rfl rfl w_187 dX2_copyFrom_169 h (fun v169 h => ?_)
  refine xx_puti (fi := 14) (j := 14) C 175 rfl (by omega) (ceXh_0 _ _ _ i0 (by omega)) (puXh_0_14 _ _ _ _ i0 (by omega)) rfl in_X2 tyX2 tyX2_ok nmX2 (by decide) (Nat.le_of_ble_eq_true rfl) ⟨rfl, rfl, rfl⟩ w_187 dX2_copyFrom_172 h (fun μ172 h => ?_)
  refine xx_aload_n C 176 rfl 0 dX2_copyFrom_175 rfl rfl ?_
  refine xx_aload_n C 177 rfl 1 dX2_copyFrom_176 rfl rfl ?_
  refine xx_geti (fi := 15) (j := 15) C 180 rfl (by omega) (ceXh_0 _ _ _ i1 (by omega)) rfl in_X2 (by decide) rfl rfl w_190 dX2_copyFrom_177 h (fun v177 h => ?_)
  refine xx_puti (fi := 15) (j := 15) C 183 rfl (by omega) (ceXh_0 _ _ _ i0 (by omega)) (puXh_0_15 _ _ _ _ i0 (by omega)) rfl in_X2 tyX2 tyX2_ok nmX2 (by decide) (Nat.le_of_ble_eq_true rfl) ⟨rfl, rfl, rfl⟩ w_190 dX2_copyFrom_180 h (fun μ180 h => ?_)
  refine xx_aload_n C 184 rfl 0 dX2_copyFrom_183 rfl rfl ?_
  refine xx_aload_n C 185 rfl 1 dX2_copyFrom_184 rfl rfl ?_
  refine xx_geti (fi := 16) (j := 16) C 188 rfl (by omega) (ceXh_0 _ _ _ i1 (by omega)) rfl in_X2 (by decide) rfl rfl w_193 dX2_copyFrom_185 h (fun v185 h => ?_)
  refine xx_puti (fi := 16) (j := 16) C 191 rfl (by omega) (ceXh_0 _ _ _ i0 (by omega)) (puXh_0_16 _ _ _ _ i0 (by omega)) rfl in_X2 tyX2 tyX2_ok nmX2 (by decide) (Nat.le_of_ble_eq_true rfl) ⟨rfl, rfl, rfl⟩ w_193 dX2_copyFrom_188 h (fun μ188 h => ?_)
  exact xx_vret C E rfl ⟨Nat.le_of_ble_eq_true rfl, Nat.le_of_ble_eq_true rfl⟩ dX2_copyFrom_191 h

def f_X3_keepBefore (μ : mu_T)  : Option mu_T :=
  nm_ (μ 138 4) (fun v5 => gd_ (0 ≤ v5 ∧ v5 < 9) (bd_ (f_X2_copyFrom_h0h0 μ (v5.toNat + 1) 0) (fun μ19 => some μ19)))
set_option maxHeartbeats 4000000 in
set_option maxRecDepth 100000 in
theorem c_X3_keepBefore {G : gp_} {ad : Nat → Nat} (μ : mu_T)  (μr : mu_T) (h : f_X3_keepBefore μ  = some μr) : mv_ yX3_keepBefore cX3_keepBefore 2 ({ frames := 3, cells := 0, slots := 0, locals := 60 } : Room) G 151 ad (ceX G ad) [.ref (ad 138)] μ μr := by
  refine mv_in (own := "UrnHeap$History") (lv := [(0, .ref (ad 138))]) (by decide) rfl rfl (Nat.le_of_ble_eq_true rfl) (fun X C E => ?_)
  unfold f_X3_keepBefore at h
  refine xx_aload_n C 1 rfl 0 dX3_keepBefore_0 rfl rfl ?_
  refine xx_getr (fi := 1) C 4 rfl (by decide) (ceX_138 _ _ _) rfl in_X3 (by decide) rfl rfl w_295 dX3_keepBefore_1 ?_
  refine xx_aload_n C 5 rfl 0 dX3_keepBefore_4 rfl rfl ?_
  refine xx_geti (fi := 4) (j := 4) C 8 rfl (by decide) (ceX_138 _ _ _) rfl in_X3 (by decide) rfl rfl w_298 dX3_keepBefore_5 h (fun v5 h => ?_)
  refine xx_aldp C 9 rfl (by decide) (fun row => ceX_139 _ _ row) (by decide) dX3_keepBefore_8 h (fun h8 h => ?_)
  refine xx_astore_n (lv1 := [(1, .ref (ad (12 * (v5.toNat + 1) + 0))), (0, .ref (ad 138))]) C 10 rfl (by decide) dX3_keepBefore_9 rfl rfl ?_
  refine xx_aload_n C 11 rfl 0 dX3_keepBefore_10 rfl rfl ?_
  refine xx_ifnull C 14 rfl dX3_keepBefore_11 ?_
  refine xx_aload_n C 15 rfl 0 dX3_keepBefore_14 rfl rfl ?_
  refine xx_aload_n C 16 rfl 1 dX3_keepBefore_15 rfl rfl ?_
  refine xx_getr (fi := 0) C 19 rfl (by decide) (ceX_138 _ _ _) rfl in_X3 (by decide) rfl rfl w_294 dX3_keepBefore_16 ?_
  refine xx_cVv (As := [.ref (ad 0)]) (st := []) (o := (12 * (v5.toNat + 1) + 0)) C 22 rfl (by omega) (ceXh_0 _ _ _ (v5.toNat + 1) (by omega)) rfl rfl ca_X2_copyFrom cv_X2_copyFrom w_429 rfl ⟨Nat.le_of_ble_eq_true rfl, Nat.le_of_ble_eq_true rfl⟩ ⟨Nat.le_of_ble_eq_true rfl, Nat.le_of_ble_eq_true rfl⟩ (Nat.le_of_ble_eq_true rfl) dX3_keepBefore_19 (fun μ19 e9 => c_X2_copyFrom_h0h0 _ (v5.toNat + 1) (by omega) 0 (by omega) μ19 e9) h (fun μ19 h => ?_) rfl
  exact xx_vret C E rfl ⟨Nat.le_of_ble_eq_true rfl, Nat.le_of_ble_eq_true rfl⟩ dX3_keepBefore_22 h

def f_X3_takeBack (μ : mu_T)  : Option mu_T :=
  nm_ (μ 138 4) (fun v5 => gd_ (0 ≤ v5 ∧ v5 < 9) (bd_ (f_X2_copyFrom_h0h0 μ 0 (v5.toNat + 1)) (fun μ19 => some μ19)))
set_option maxHeartbeats 4000000 in
set_option maxRecDepth 100000 in
theorem c_X3_takeBack {G : gp_} {ad : Nat → Nat} (μ : mu_T)  (μr : mu_T) (h : f_X3_takeBack μ  = some μr) : mv_ yX3_takeBack cX3_takeBack 2 ({ frames := 3, cells := 0, slots := 0, locals := 60 } : Room) G 151 ad (ceX G ad) [.ref (ad 138)] μ μr := by
  refine mv_in (own := "UrnHeap$History") (lv := [(0, .ref (ad 138))]) (by decide) rfl rfl (Nat.le_of_ble_eq_true rfl) (fun X C E => ?_)
  unfold f_X3_takeBack at h
  refine xx_aload_n C 1 rfl 0 dX3_takeBack_0 rfl rfl ?_
  refine xx_getr (fi := 1) C 4 rfl (by decide) (ceX_138 _ _ _) rfl in_X3 (by decide) rfl rfl w_295 dX3_takeBack_1 ?_
  refine xx_aload_n C 5 rfl 0 dX3_takeBack_4 rfl rfl ?_
  refine xx_geti (fi := 4) (j := 4) C 8 rfl (by decide) (ceX_138 _ _ _) rfl in_X3 (by decide) rfl rfl w_298 dX3_takeBack_5 h (fun v5 h => ?_)
  refine xx_aldp C 9 rfl (by decide) (fun row => ceX_139 _ _ row) (by decide) dX3_takeBack_8 h (fun h8 h => ?_)
  refine xx_astore_n (lv1 := [(1, .ref (ad (12 * (v5.toNat + 1) + 0))), (0, .ref (ad 138))]) C 10 rfl (by decide) dX3_takeBack_9 rfl rfl ?_
  refine xx_aload_n C 11 rfl 0 dX3_takeBack_10 rfl rfl ?_
  refine xx_ifnull C 14 rfl dX3_takeBack_11 ?_
  refine xx_aload_n C 15 rfl 1 dX3_takeBack_14 rfl rfl ?_
  refine xx_getr (fi := 0) C 18 rfl (by decide) (ceX_138 _ _ _) rfl in_X3 (by decide) rfl rfl w_294 dX3_takeBack_15 ?_
  refine xx_aload_n C 19 rfl 0 dX3_takeBack_18 rfl rfl ?_
  refine xx_cVv (As := [.ref (ad (12 * (v5.toNat + 1) + 0))]) (st := []) (o := 0) C 22 rfl (by decide) (ceX_0 _ _ _) rfl rfl ca_X2_copyFrom cv_X2_copyFrom w_429 rfl ⟨Nat.le_of_ble_eq_true rfl, Nat.le_of_ble_eq_true rfl⟩ ⟨Nat.le_of_ble_eq_true rfl, Nat.le_of_ble_eq_true rfl⟩ (Nat.le_of_ble_eq_true rfl) dX3_takeBack_19 (fun μ19 e9 => c_X2_copyFrom_h0h0 _ 0 (by omega) (v5.toNat + 1) (by omega) μ19 e9) h (fun μ19 h => ?_) rfl
  exact xx_vret C E rfl ⟨Nat.le_of_ble_eq_true rfl, Nat.le_of_ble_eq_true rfl⟩ dX3_takeBack_22 h

def f_X3_settle (μ : mu_T) (a1 : Int) : Option (Int × mu_T) :=
  bd_ (f_X3_isRefusal μ a1) (fun v1 => eq_ v1 0
      (nm_ (μ 138 4) (fun v9 => jn_ (φ := Int → Option (Int × mu_T)) (fun s0_27 => wf_ μ 138 4 s0_27 (fun μ27 => nm_ (μ27 138 5) (fun v32 => mn_ (v32 + 1) 8 (fun v39 => wf_ μ27 138 5 v39 (fun μ42 => some (a1, μ42))))))
      (fun J27 => lt_ v9 8
      (nm_ (μ 138 4) (fun v18 => J27 (v18 + 1)))
      (J27 0))))
      (some (a1, μ)))
set_option maxHeartbeats 4000000 in
set_option maxRecDepth 100000 in
theorem c_X3_settle {G : gp_} {ad : Nat → Nat} (μ : mu_T) (a1 : Int) (a : Int) (μr : mu_T) (h : f_X3_settle μ a1 = some (a, μr)) : mi_ yX3_settle cX3_settle 2 (some .int) ({ frames := 1, cells := 0, slots := 0, locals := 20 } : Room) G 151 ad (ceX G ad) [.ref (ad 138), .int (iI a1)] μ a μr := by
  refine mi_in (own := "UrnHeap$History") (lv := [(0, .ref (ad 138)), (1, .int (iI a1))]) (by decide) rfl rfl (Nat.le_of_ble_eq_true rfl) (fun X C E => ?_)
  unfold f_X3_settle at h
  refine xx_iload_n C 1 rfl 1 dX3_settle_0 rfl rfl ?_
  refine xx_cSip (As := [.int (iI a1)]) (st := []) C 4 rfl  ca_X3_isRefusal cs_X3_isRefusal w_461 rfl ⟨Nat.le_of_ble_eq_true rfl, Nat.le_of_ble_eq_true rfl⟩ ⟨Nat.le_of_ble_eq_true rfl, Nat.le_of_ble_eq_true rfl⟩ (Nat.le_of_ble_eq_true rfl) dX3_settle_1 (fun v1 e9 => c_X3_isRefusal _ _ v1 e9) h (fun v1 h => ?_) rfl
  refine xx_if_ne (tgt := 45) C 7 rfl dX3_settle_4 (by decide) h (fun h => ?_) (fun h => ?_)
  · refine xx_iload_n C 46 rfl 1 dX3_settle_45 rfl rfl ?_
    exact xx_iret C E rfl ⟨Nat.le_of_ble_eq_true rfl, Nat.le_of_ble_eq_true rfl⟩ dX3_settle_46 h
  · refine xx_aload_n C 8 rfl 0 dX3_settle_7 rfl rfl ?_
    refine xx_aload_n C 9 rfl 0 dX3_settle_8 rfl rfl ?_
    refine xx_geti (fi := 4) (j := 4) C 12 rfl (by decide) (ceX_138 _ _ _) rfl in_X3 (by decide) rfl rfl w_298 dX3_settle_9 h (fun v9 h => ?_)
    refine xx_bipush C 14 rfl dX3_settle_12 (by decide) ?_
    refine jn_r (fun J => ∀ (s0_27 : Int), J s0_27 = some (a, μr) → wx_ G X 151 ad (ceX G ad) μ 0 0 27 [(0, .ref (ad 138)), (1, .int (iI a1))] [.int (iI s0_27), .ref (ad 138)]) h (fun s0_27 h => ?_) (fun J27 K27 h => ?_)
    · refine xx_puti (fi := 4) (j := 4) C 30 rfl (by decide) (ceX_138 _ _ _) (puX_138_4 _ _ _ _) rfl in_X3 tyX3 tyX3_ok nmX3 (by decide) (Nat.le_of_ble_eq_true rfl) ⟨rfl, rfl, rfl⟩ w_298 dX3_settle_27 h (fun μ27 h => ?_)
      refine xx_aload_n C 31 rfl 0 dX3_settle_30 rfl rfl ?_
      refine xx_aload_n C 32 rfl 0 dX3_settle_31 rfl rfl ?_
      refine xx_geti (fi := 5) (j := 5) C 35 rfl (by decide) (ceX_138 _ _ _) rfl in_X3 (by decide) rfl rfl w_299 dX3_settle_32 h (fun v32 h => ?_)
      refine xx_iconst C 36 rfl dX3_settle_35 ?_
      refine xx_iadd C 37 rfl dX3_settle_36 ?_
      refine xx_bipush C 39 rfl dX3_settle_37 (by decide) ?_
      refine xx_mmin C 42 rfl ⟨w_464, w_465, w_93, w_466⟩ ⟨Nat.le_of_ble_eq_true rfl, Nat.le_of_ble_eq_true rfl⟩ ⟨Nat.le_of_ble_eq_true rfl, Nat.le_of_ble_eq_true rfl⟩ dX3_settle_39 h (fun v39 h => ?_)
      refine xx_puti (fi := 5) (j := 5) C 45 rfl (by decide) (ceX_138 _ _ _) (puX_138_5 _ _ _ _) rfl in_X3 tyX3 tyX3_ok nmX3 (by decide) (Nat.le_of_ble_eq_true rfl) ⟨rfl, rfl, rfl⟩ w_299 dX3_settle_42 h (fun μ42 h => ?_)
      refine xx_iload_n C 46 rfl 1 dX3_settle_45 rfl rfl ?_
      exact xx_iret C E rfl ⟨Nat.le_of_ble_eq_true rfl, Nat.le_of_ble_eq_true rfl⟩ dX3_settle_46 h
    · refine xx_icmp_ge (tgt := 26) C 17 rfl dX3_settle_14 (by decide) h (fun h => ?_) (fun h => ?_)
      · refine xx_iconst C 27 rfl dX3_settle_26 ?_
        exact K27 0 h
      · refine xx_aload_n C 18 rfl 0 dX3_settle_17 rfl rfl ?_
        refine xx_geti (fi := 4) (j := 4) C 21 rfl (by decide) (ceX_138 _ _ _) rfl in_X3 (by decide) rfl rfl w_298 dX3_settle_18 h (fun v18 h => ?_)
        refine xx_iconst C 22 rfl dX3_settle_21 ?_
        refine xx_iadd C 23 rfl dX3_settle_22 ?_
        refine xx_goto C 27 dX3_settle_23 (by decide) ?_
        exact K27 (v18 + 1) h

def f_X3_undoLatest (μ : mu_T)  : Option (Int × mu_T) :=
  nm_ (μ 138 5) (fun v1 => eq_ v1 0
      (some ((-15), μ))
      (nm_ (μ 138 4) (fun v12 => jn_ (φ := Int → Option (Int × mu_T)) (fun s0_29 => wf_ μ 138 4 s0_29 (fun μ29 => bd_ (f_X3_takeBack μ29) (fun μ33 => nm_ (μ33 138 5) (fun v38 => wf_ μ33 138 5 (v38 - 1) (fun μ43 => nm_ (μ43 138 5) (fun v47 => some (v47, μ43)))))))
      (fun J29 => lt_ 0 v12
      (nm_ (μ 138 4) (fun v19 => J29 (v19 - 1)))
      (J29 8)))))
set_option maxHeartbeats 4000000 in
set_option maxRecDepth 100000 in
theorem c_X3_undoLatest {G : gp_} {ad : Nat → Nat} (μ : mu_T)  (a : Int) (μr : mu_T) (h : f_X3_undoLatest μ  = some (a, μr)) : mi_ yX3_undoLatest cX3_undoLatest 1 (some .int) ({ frames := 4, cells := 0, slots := 0, locals := 81 } : Room) G 151 ad (ceX G ad) [.ref (ad 138)] μ a μr := by
  refine mi_in (own := "UrnHeap$History") (lv := [(0, .ref (ad 138))]) (by decide) rfl rfl (Nat.le_of_ble_eq_true rfl) (fun X C E => ?_)
  unfold f_X3_undoLatest at h
  refine xx_aload_n C 1 rfl 0 dX3_undoLatest_0 rfl rfl ?_
  refine xx_geti (fi := 5) (j := 5) C 4 rfl (by decide) (ceX_138 _ _ _) rfl in_X3 (by decide) rfl rfl w_299 dX3_undoLatest_1 h (fun v1 h => ?_)
  refine xx_if_ne (tgt := 10) C 7 rfl dX3_undoLatest_4 (by decide) h (fun h => ?_) (fun h => ?_)
  · refine xx_aload_n C 11 rfl 0 dX3_undoLatest_10 rfl rfl ?_
    refine xx_aload_n C 12 rfl 0 dX3_undoLatest_11 rfl rfl ?_
    refine xx_geti (fi := 4) (j := 4) C 15 rfl (by decide) (ceX_138 _ _ _) rfl in_X3 (by decide) rfl rfl w_298 dX3_undoLatest_12 h (fun v12 h => ?_)
    refine jn_r (fun J => ∀ (s0_29 : Int), J s0_29 = some (a, μr) → wx_ G X 151 ad (ceX G ad) μ 0 0 29 [(0, .ref (ad 138))] [.int (iI s0_29), .ref (ad 138)]) h (fun s0_29 h => ?_) (fun J29 K29 h => ?_)
    · refine xx_puti (fi := 4) (j := 4) C 32 rfl (by decide) (ceX_138 _ _ _) (puX_138_4 _ _ _ _) rfl in_X3 tyX3 tyX3_ok nmX3 (by decide) (Nat.le_of_ble_eq_true rfl) ⟨rfl, rfl, rfl⟩ w_298 dX3_undoLatest_29 h (fun μ29 h => ?_)
      refine xx_aload_n C 33 rfl 0 dX3_undoLatest_32 rfl rfl ?_
      refine xx_cVv (As := []) (st := []) (o := 138) C 36 rfl (by decide) (ceX_138 _ _ _) rfl rfl ca_X3_takeBack cv_X3_takeBack w_1140 rfl ⟨Nat.le_of_ble_eq_true rfl, Nat.le_of_ble_eq_true rfl⟩ ⟨Nat.le_of_ble_eq_true rfl, Nat.le_of_ble_eq_true rfl⟩ (Nat.le_of_ble_eq_true rfl) dX3_undoLatest_33 (fun μ33 e9 => c_X3_takeBack _ μ33 e9) h (fun μ33 h => ?_) rfl
      refine xx_aload_n C 37 rfl 0 dX3_undoLatest_36 rfl rfl ?_
      refine xx_dup C 38 rfl dX3_undoLatest_37 rfl ?_
      refine xx_geti (fi := 5) (j := 5) C 41 rfl (by decide) (ceX_138 _ _ _) rfl in_X3 (by decide) rfl rfl w_299 dX3_undoLatest_38 h (fun v38 h => ?_)
      refine xx_iconst C 42 rfl dX3_undoLatest_41 ?_
      refine xx_isub C 43 rfl dX3_undoLatest_42 ?_
      refine xx_puti (fi := 5) (j := 5) C 46 rfl (by decide) (ceX_138 _ _ _) (puX_138_5 _ _ _ _) rfl in_X3 tyX3 tyX3_ok nmX3 (by decide) (Nat.le_of_ble_eq_true rfl) ⟨rfl, rfl, rfl⟩ w_299 dX3_undoLatest_43 h (fun μ43 h => ?_)
      refine xx_aload_n C 47 rfl 0 dX3_undoLatest_46 rfl rfl ?_
      refine xx_geti (fi := 5) (j := 5) C 50 rfl (by decide) (ceX_138 _ _ _) rfl in_X3 (by decide) rfl rfl w_299 dX3_undoLatest_47 h (fun v47 h => ?_)
      exact xx_iret C E rfl ⟨Nat.le_of_ble_eq_true rfl, Nat.le_of_ble_eq_true rfl⟩ dX3_undoLatest_50 h
    · refine xx_if_le (tgt := 27) C 18 rfl dX3_undoLatest_15 (by decide) h (fun h => ?_) (fun h => ?_)
      · refine xx_bipush C 29 rfl dX3_undoLatest_27 (by decide) ?_
        exact K29 8 h
      · refine xx_aload_n C 19 rfl 0 dX3_undoLatest_18 rfl rfl ?_
        refine xx_geti (fi := 4) (j := 4) C 22 rfl (by decide) (ceX_138 _ _ _) rfl in_X3 (by decide) rfl rfl w_298 dX3_undoLatest_19 h (fun v19 h => ?_)
        refine xx_iconst C 23 rfl dX3_undoLatest_22 ?_
        refine xx_isub C 24 rfl dX3_undoLatest_23 ?_
        refine xx_goto C 29 dX3_undoLatest_24 (by decide) ?_
        exact K29 (v19 - 1) h
  · refine xx_bipush C 9 rfl dX3_undoLatest_7 (by decide) ?_
    exact xx_iret C E rfl ⟨Nat.le_of_ble_eq_true rfl, Nat.le_of_ble_eq_true rfl⟩ dX3_undoLatest_9 h
end
section
theorem dX3_saveNow_0 : decode cX3_saveNow 0 = .ok (.aload_n 0, 1) := by decide +kernel
theorem dX3_saveNow_1 : decode cX3_saveNow 1 = .ok (.getfield 18, 3) := by decide +kernel
theorem dX3_saveNow_4 : decode cX3_saveNow 4 = .ok (.aload_n 0, 1) := by decide +kernel
theorem dX3_saveNow_5 : decode cX3_saveNow 5 = .ok (.getfield 33, 3) := by decide +kernel
theorem dX3_saveNow_8 : decode cX3_saveNow 8 = .ok (.invokevirtual 36, 3) := by decide +kernel
theorem dX3_saveNow_11 : decode cX3_saveNow 11 = .ok (.aload_n 0, 1) := by decide +kernel
theorem dX3_saveNow_12 : decode cX3_saveNow 12 = .ok (.iconst 1, 1) := by decide +kernel
theorem dX3_saveNow_13 : decode cX3_saveNow 13 = .ok (.putfield 22, 3) := by decide +kernel
theorem dX3_saveNow_16 : decode cX3_saveNow 16 = .ok (.aload_n 0, 1) := by decide +kernel
theorem dX3_saveNow_17 : decode cX3_saveNow 17 = .ok (.getfield 33, 3) := by decide +kernel
theorem dX3_saveNow_20 : decode cX3_saveNow 20 = .ok (.invokevirtual 53, 3) := by decide +kernel
theorem dX3_saveNow_23 : decode cX3_saveNow 23 = .ok (.ireturn, 1) := by decide +kernel
theorem dX3_restoreSaved_0 : decode cX3_restoreSaved 0 = .ok (.aload_n 0, 1) := by decide +kernel
theorem dX3_restoreSaved_1 : decode cX3_restoreSaved 1 = .ok (.getfield 22, 3) := by decide +kernel
theorem dX3_restoreSaved_4 : decode cX3_restoreSaved 4 = .ok (.ifCond .ne 6, 3) := by decide +kernel
theorem dX3_restoreSaved_7 : decode cX3_restoreSaved 7 = .ok (.bipush (-15), 2) := by decide +kernel
theorem dX3_restoreSaved_9 : decode cX3_restoreSaved 9 = .ok (.ireturn, 1) := by decide +kernel
theorem dX3_restoreSaved_10 : decode cX3_restoreSaved 10 = .ok (.aload_n 0, 1) := by decide +kernel
theorem dX3_restoreSaved_11 : decode cX3_restoreSaved 11 = .ok (.getfield 33, 3) := by decide +kernel
theorem dX3_restoreSaved_14 : decode cX3_restoreSaved 14 = .ok (.aload_n 0, 1) := by decide +kernel
theorem dX3_restoreSaved_15 : decode cX3_restoreSaved 15 = .ok (.getfield 18, 3) := by decide +kernel
theorem dX3_restoreSaved_18 : decode cX3_restoreSaved 18 = .ok (.invokevirtual 36, 3) := by decide +kernel
theorem dX3_restoreSaved_21 : decode cX3_restoreSaved 21 = .ok (.aload_n 0, 1) := by decide +kernel
theorem dX3_restoreSaved_22 : decode cX3_restoreSaved 22 = .ok (.iconst 0, 1) := by decide +kernel
theorem dX3_restoreSaved_23 : decode cX3_restoreSaved 23 = .ok (.putfield 30, 3) := by decide +kernel
theorem dX3_restoreSaved_26 : decode cX3_restoreSaved 26 = .ok (.aload_n 0, 1) := by decide +kernel
theorem dX3_restoreSaved_27 : decode cX3_restoreSaved 27 = .ok (.getfield 33, 3) := by decide +kernel
theorem dX3_restoreSaved_30 : decode cX3_restoreSaved 30 = .ok (.invokevirtual 53, 3) := by decide +kernel
theorem dX3_restoreSaved_33 : decode cX3_restoreSaved 33 = .ok (.ireturn, 1) := by decide +kernel
theorem dX5_letterOf_0 : decode cX5_letterOf 0 = .ok (.iload_n 0, 1) := by decide +kernel
theorem dX5_letterOf_1 : decode cX5_letterOf 1 = .ok (.tableswitch 36 0 2 #[27, 30, 33], 27) := by decide +kernel
theorem dX5_letterOf_28 : decode cX5_letterOf 28 = .ok (.bipush 119, 2) := by decide +kernel
theorem dX5_letterOf_30 : decode cX5_letterOf 30 = .ok (.ireturn, 1) := by decide +kernel
theorem dX5_letterOf_31 : decode cX5_letterOf 31 = .ok (.bipush 103, 2) := by decide +kernel
theorem dX5_letterOf_33 : decode cX5_letterOf 33 = .ok (.ireturn, 1) := by decide +kernel
theorem dX5_letterOf_34 : decode cX5_letterOf 34 = .ok (.bipush 98, 2) := by decide +kernel
theorem dX5_letterOf_36 : decode cX5_letterOf 36 = .ok (.ireturn, 1) := by decide +kernel
theorem dX5_letterOf_37 : decode cX5_letterOf 37 = .ok (.bipush 46, 2) := by decide +kernel
theorem dX5_letterOf_39 : decode cX5_letterOf 39 = .ok (.ireturn, 1) := by decide +kernel
theorem dX6_has_0 : decode cX6_has 0 = .ok (.iload_n 1, 1) := by decide +kernel
theorem dX6_has_1 : decode cX6_has 1 = .ok (.ifCond .lt 33, 3) := by decide +kernel
theorem dX6_has_4 : decode cX6_has 4 = .ok (.iload_n 1, 1) := by decide +kernel
theorem dX6_has_5 : decode cX6_has 5 = .ok (.aload_n 0, 1) := by decide +kernel
theorem dX6_has_6 : decode cX6_has 6 = .ok (.getfield 34, 3) := by decide +kernel
theorem dX6_has_9 : decode cX6_has 9 = .ok (.if_icmp .ge 25, 3) := by decide +kernel
theorem dX6_has_12 : decode cX6_has 12 = .ok (.iload_n 1, 1) := by decide +kernel
theorem dX6_has_13 : decode cX6_has 13 = .ok (.aload_n 0, 1) := by decide +kernel
theorem dX6_has_14 : decode cX6_has 14 = .ok (.getfield 20, 3) := by decide +kernel
theorem dX6_has_17 : decode cX6_has 17 = .ok (.arraylength, 1) := by decide +kernel
theorem dX6_has_18 : decode cX6_has 18 = .ok (.if_icmp .ge 16, 3) := by decide +kernel
theorem dX6_has_21 : decode cX6_has 21 = .ok (.aload_n 0, 1) := by decide +kernel
theorem dX6_has_22 : decode cX6_has 22 = .ok (.getfield 20, 3) := by decide +kernel
theorem dX6_has_25 : decode cX6_has 25 = .ok (.iload_n 1, 1) := by decide +kernel
theorem dX6_has_26 : decode cX6_has 26 = .ok (.aaload, 1) := by decide +kernel
theorem dX6_has_27 : decode cX6_has 27 = .ok (.ifnull 7, 3) := by decide +kernel
theorem dX6_has_30 : decode cX6_has 30 = .ok (.iconst 1, 1) := by decide +kernel
theorem dX6_has_31 : decode cX6_has 31 = .ok (.goto 4, 3) := by decide +kernel
theorem dX6_has_34 : decode cX6_has 34 = .ok (.iconst 0, 1) := by decide +kernel
theorem dX6_has_35 : decode cX6_has 35 = .ok (.ireturn, 1) := by decide +kernel
theorem dX6_keep_0 : decode cX6_keep 0 = .ok (.aload_n 0, 1) := by decide +kernel
theorem dX6_keep_1 : decode cX6_keep 1 = .ok (.getfield 34, 3) := by decide +kernel
theorem dX6_keep_4 : decode cX6_keep 4 = .ok (.aload_n 0, 1) := by decide +kernel
theorem dX6_keep_5 : decode cX6_keep 5 = .ok (.getfield 20, 3) := by decide +kernel
theorem dX6_keep_8 : decode cX6_keep 8 = .ok (.arraylength, 1) := by decide +kernel
theorem dX6_keep_9 : decode cX6_keep 9 = .ok (.if_icmp .ge 68, 3) := by decide +kernel
theorem dX6_keep_12 : decode cX6_keep 12 = .ok (.aload_n 0, 1) := by decide +kernel
theorem dX6_keep_13 : decode cX6_keep 13 = .ok (.getfield 20, 3) := by decide +kernel
theorem dX6_keep_16 : decode cX6_keep 16 = .ok (.aload_n 0, 1) := by decide +kernel
theorem dX6_keep_17 : decode cX6_keep 17 = .ok (.getfield 34, 3) := by decide +kernel
theorem dX6_keep_20 : decode cX6_keep 20 = .ok (.aload_n 1, 1) := by decide +kernel
theorem dX6_keep_21 : decode cX6_keep 21 = .ok (.aastore, 1) := by decide +kernel
theorem dX6_keep_22 : decode cX6_keep 22 = .ok (.aload_n 0, 1) := by decide +kernel
theorem dX6_keep_23 : decode cX6_keep 23 = .ok (.getfield 24, 3) := by decide +kernel
theorem dX6_keep_26 : decode cX6_keep 26 = .ok (.aload_n 0, 1) := by decide +kernel
theorem dX6_keep_27 : decode cX6_keep 27 = .ok (.getfield 34, 3) := by decide +kernel
theorem dX6_keep_30 : decode cX6_keep 30 = .ok (.aload_n 0, 1) := by decide +kernel
theorem dX6_keep_31 : decode cX6_keep 31 = .ok (.getfield 38, 3) := by decide +kernel
theorem dX6_keep_34 : decode cX6_keep 34 = .ok (.iconst 0, 1) := by decide +kernel
theorem dX6_keep_35 : decode cX6_keep 35 = .ok (.iaload, 1) := by decide +kernel
theorem dX6_keep_36 : decode cX6_keep 36 = .ok (.iastore, 1) := by decide +kernel
theorem dX6_keep_37 : decode cX6_keep 37 = .ok (.aload_n 0, 1) := by decide +kernel
theorem dX6_keep_38 : decode cX6_keep 38 = .ok (.getfield 28, 3) := by decide +kernel
theorem dX6_keep_41 : decode cX6_keep 41 = .ok (.aload_n 0, 1) := by decide +kernel
theorem dX6_keep_42 : decode cX6_keep 42 = .ok (.getfield 34, 3) := by decide +kernel
theorem dX6_keep_45 : decode cX6_keep 45 = .ok (.aload_n 0, 1) := by decide +kernel
theorem dX6_keep_46 : decode cX6_keep 46 = .ok (.getfield 38, 3) := by decide +kernel
theorem dX6_keep_49 : decode cX6_keep 49 = .ok (.iconst 1, 1) := by decide +kernel
theorem dX6_keep_50 : decode cX6_keep 50 = .ok (.iaload, 1) := by decide +kernel
theorem dX6_keep_51 : decode cX6_keep 51 = .ok (.iastore, 1) := by decide +kernel
theorem dX6_keep_52 : decode cX6_keep 52 = .ok (.aload_n 0, 1) := by decide +kernel
theorem dX6_keep_53 : decode cX6_keep 53 = .ok (.getfield 31, 3) := by decide +kernel
theorem dX6_keep_56 : decode cX6_keep 56 = .ok (.aload_n 0, 1) := by decide +kernel
theorem dX6_keep_57 : decode cX6_keep 57 = .ok (.getfield 34, 3) := by decide +kernel
theorem dX6_keep_60 : decode cX6_keep 60 = .ok (.aload_n 0, 1) := by decide +kernel
theorem dX6_keep_61 : decode cX6_keep 61 = .ok (.getfield 38, 3) := by decide +kernel
theorem dX6_keep_64 : decode cX6_keep 64 = .ok (.iconst 2, 1) := by decide +kernel
theorem dX6_keep_65 : decode cX6_keep 65 = .ok (.iaload, 1) := by decide +kernel
theorem dX6_keep_66 : decode cX6_keep 66 = .ok (.iastore, 1) := by decide +kernel
theorem dX6_keep_67 : decode cX6_keep 67 = .ok (.aload_n 0, 1) := by decide +kernel
theorem dX6_keep_68 : decode cX6_keep 68 = .ok (.dup, 1) := by decide +kernel
theorem dX6_keep_69 : decode cX6_keep 69 = .ok (.getfield 34, 3) := by decide +kernel
theorem dX6_keep_72 : decode cX6_keep 72 = .ok (.iconst 1, 1) := by decide +kernel
theorem dX6_keep_73 : decode cX6_keep 73 = .ok (.iadd, 1) := by decide +kernel
theorem dX6_keep_74 : decode cX6_keep 74 = .ok (.putfield 34, 3) := by decide +kernel
theorem dX6_keep_77 : decode cX6_keep 77 = .ok (.return_, 1) := by decide +kernel
theorem dX6_isForNumber_0 : decode cX6_isForNumber 0 = .ok (.iload_n 0, 1) := by decide +kernel
theorem dX6_isForNumber_1 : decode cX6_isForNumber 1 = .ok (.bipush 35, 2) := by decide +kernel
theorem dX6_isForNumber_3 : decode cX6_isForNumber 3 = .ok (.if_icmp .eq 15, 3) := by decide +kernel
theorem dX6_isForNumber_6 : decode cX6_isForNumber 6 = .ok (.iload_n 0, 1) := by decide +kernel
theorem dX6_isForNumber_7 : decode cX6_isForNumber 7 = .ok (.bipush 36, 2) := by decide +kernel
theorem dX6_isForNumber_9 : decode cX6_isForNumber 9 = .ok (.if_icmp .eq 9, 3) := by decide +kernel
theorem dX6_isForNumber_12 : decode cX6_isForNumber 12 = .ok (.iload_n 0, 1) := by decide +kernel
theorem dX6_isForNumber_13 : decode cX6_isForNumber 13 = .ok (.bipush 64, 2) := by decide +kernel
theorem dX6_isForNumber_15 : decode cX6_isForNumber 15 = .ok (.if_icmp .ne 7, 3) := by decide +kernel
theorem dX6_isForNumber_18 : decode cX6_isForNumber 18 = .ok (.iconst 1, 1) := by decide +kernel
theorem dX6_isForNumber_19 : decode cX6_isForNumber 19 = .ok (.goto 4, 3) := by decide +kernel
theorem dX6_isForNumber_22 : decode cX6_isForNumber 22 = .ok (.iconst 0, 1) := by decide +kernel
theorem dX6_isForNumber_23 : decode cX6_isForNumber 23 = .ok (.ireturn, 1) := by decide +kernel
theorem dX7_bit_0 : decode cX7_bit 0 = .ok (.iload_n 0, 1) := by decide +kernel
theorem dX7_bit_1 : decode cX7_bit 1 = .ok (.invokestatic 83, 3) := by decide +kernel
theorem dX7_bit_4 : decode cX7_bit 4 = .ok (.ifCond .eq 9, 3) := by decide +kernel
theorem dX7_bit_7 : decode cX7_bit 7 = .ok (.iconst 1, 1) := by decide +kernel
theorem dX7_bit_8 : decode cX7_bit 8 = .ok (.iload_n 0, 1) := by decide +kernel
theorem dX7_bit_9 : decode cX7_bit 9 = .ok (.ishl, 1) := by decide +kernel
theorem dX7_bit_10 : decode cX7_bit 10 = .ok (.goto 4, 3) := by decide +kernel
theorem dX7_bit_13 : decode cX7_bit 13 = .ok (.iconst 0, 1) := by decide +kernel
theorem dX7_bit_14 : decode cX7_bit 14 = .ok (.ireturn, 1) := by decide +kernel
theorem dX7_rootsByRite_0 : decode cX7_rootsByRite 0 = .ok (.iconst 0, 1) := by decide +kernel
theorem dX7_rootsByRite_1 : decode cX7_rootsByRite 1 = .ok (.istore_n 2, 1) := by decide +kernel
theorem dX7_rootsByRite_2 : decode cX7_rootsByRite 2 = .ok (.iconst 0, 1) := by decide +kernel
theorem dX7_rootsByRite_3 : decode cX7_rootsByRite 3 = .ok (.istore_n 3, 1) := by decide +kernel
theorem dX7_rootsByRite_4 : decode cX7_rootsByRite 4 = .ok (.iload_n 3, 1) := by decide +kernel
theorem dX7_rootsByRite_5 : decode cX7_rootsByRite 5 = .ok (.bipush 24, 2) := by decide +kernel
theorem dX7_rootsByRite_7 : decode cX7_rootsByRite 7 = .ok (.if_icmp .ge 40, 3) := by decide +kernel
theorem dX7_rootsByRite_10 : decode cX7_rootsByRite 10 = .ok (.aload_n 0, 1) := by decide +kernel
theorem dX7_rootsByRite_11 : decode cX7_rootsByRite 11 = .ok (.getfield 15, 3) := by decide +kernel
theorem dX7_rootsByRite_14 : decode cX7_rootsByRite 14 = .ok (.iload_n 3, 1) := by decide +kernel
theorem dX7_rootsByRite_15 : decode cX7_rootsByRite 15 = .ok (.invokevirtual 58, 3) := by decide +kernel
theorem dX7_rootsByRite_18 : decode cX7_rootsByRite 18 = .ok (.ifCond .eq 23, 3) := by decide +kernel
theorem dX7_rootsByRite_21 : decode cX7_rootsByRite 21 = .ok (.aload_n 0, 1) := by decide +kernel
theorem dX7_rootsByRite_22 : decode cX7_rootsByRite 22 = .ok (.getfield 15, 3) := by decide +kernel
theorem dX7_rootsByRite_25 : decode cX7_rootsByRite 25 = .ok (.getfield 74, 3) := by decide +kernel
theorem dX7_rootsByRite_28 : decode cX7_rootsByRite 28 = .ok (.iload_n 3, 1) := by decide +kernel
theorem dX7_rootsByRite_29 : decode cX7_rootsByRite 29 = .ok (.iaload, 1) := by decide +kernel
theorem dX7_rootsByRite_30 : decode cX7_rootsByRite 30 = .ok (.iload_n 1, 1) := by decide +kernel
theorem dX7_rootsByRite_31 : decode cX7_rootsByRite 31 = .ok (.if_icmp .ne 10, 3) := by decide +kernel
theorem dX7_rootsByRite_34 : decode cX7_rootsByRite 34 = .ok (.iload_n 2, 1) := by decide +kernel
theorem dX7_rootsByRite_35 : decode cX7_rootsByRite 35 = .ok (.iload_n 3, 1) := by decide +kernel
theorem dX7_rootsByRite_36 : decode cX7_rootsByRite 36 = .ok (.invokestatic 34, 3) := by decide +kernel
theorem dX7_rootsByRite_39 : decode cX7_rootsByRite 39 = .ok (.ior, 1) := by decide +kernel
theorem dX7_rootsByRite_40 : decode cX7_rootsByRite 40 = .ok (.istore_n 2, 1) := by decide +kernel
theorem dX7_rootsByRite_41 : decode cX7_rootsByRite 41 = .ok (.iinc 3 1, 3) := by decide +kernel
theorem dX7_rootsByRite_44 : decode cX7_rootsByRite 44 = .ok (.goto (-40), 3) := by decide +kernel
theorem dX7_rootsByRite_47 : decode cX7_rootsByRite 47 = .ok (.iload_n 2, 1) := by decide +kernel
theorem dX7_rootsByRite_48 : decode cX7_rootsByRite 48 = .ok (.ireturn, 1) := by decide +kernel
theorem dX7_roots_0 : decode cX7_roots 0 = .ok (.aload_n 0, 1) := by decide +kernel
theorem dX7_roots_1 : decode cX7_roots 1 = .ok (.iconst 2, 1) := by decide +kernel
theorem dX7_roots_2 : decode cX7_roots 2 = .ok (.invokevirtual 26, 3) := by decide +kernel
theorem dX7_roots_5 : decode cX7_roots 5 = .ok (.istore_n 2, 1) := by decide +kernel
theorem dX7_roots_6 : decode cX7_roots 6 = .ok (.iconst 0, 1) := by decide +kernel
theorem dX7_roots_7 : decode cX7_roots 7 = .ok (.istore_n 3, 1) := by decide +kernel
theorem dX7_roots_8 : decode cX7_roots 8 = .ok (.iload_n 3, 1) := by decide +kernel
theorem dX7_roots_9 : decode cX7_roots 9 = .ok (.bipush 6, 2) := by decide +kernel
theorem dX7_roots_11 : decode cX7_roots 11 = .ok (.if_icmp .ge 29, 3) := by decide +kernel
theorem dX7_roots_14 : decode cX7_roots 14 = .ok (.iload_n 3, 1) := by decide +kernel
theorem dX7_roots_15 : decode cX7_roots 15 = .ok (.iload_n 1, 1) := by decide +kernel
theorem dX7_roots_16 : decode cX7_roots 16 = .ok (.if_icmp .eq 18, 3) := by decide +kernel
theorem dX7_roots_19 : decode cX7_roots 19 = .ok (.iload_n 2, 1) := by decide +kernel
theorem dX7_roots_20 : decode cX7_roots 20 = .ok (.aload_n 0, 1) := by decide +kernel
theorem dX7_roots_21 : decode cX7_roots 21 = .ok (.getfield 15, 3) := by decide +kernel
theorem dX7_roots_24 : decode cX7_roots 24 = .ok (.getfield 29, 3) := by decide +kernel
theorem dX7_roots_27 : decode cX7_roots 27 = .ok (.iload_n 3, 1) := by decide +kernel
theorem dX7_roots_28 : decode cX7_roots 28 = .ok (.iaload, 1) := by decide +kernel
theorem dX7_roots_29 : decode cX7_roots 29 = .ok (.invokestatic 34, 3) := by decide +kernel
theorem dX7_roots_32 : decode cX7_roots 32 = .ok (.ior, 1) := by decide +kernel
theorem dX7_roots_33 : decode cX7_roots 33 = .ok (.istore_n 2, 1) := by decide +kernel
theorem dX7_roots_34 : decode cX7_roots 34 = .ok (.iinc 3 1, 3) := by decide +kernel
theorem dX7_roots_37 : decode cX7_roots 37 = .ok (.goto (-29), 3) := by decide +kernel
theorem dX7_roots_40 : decode cX7_roots 40 = .ok (.iload_n 2, 1) := by decide +kernel
theorem dX7_roots_41 : decode cX7_roots 41 = .ok (.ireturn, 1) := by decide +kernel
theorem dX7_isIn_0 : decode cX7_isIn 0 = .ok (.iload_n 0, 1) := by decide +kernel
theorem dX7_isIn_1 : decode cX7_isIn 1 = .ok (.iload_n 1, 1) := by decide +kernel
theorem dX7_isIn_2 : decode cX7_isIn 2 = .ok (.invokestatic 34, 3) := by decide +kernel
theorem dX7_isIn_5 : decode cX7_isIn 5 = .ok (.iand, 1) := by decide +kernel
theorem dX7_isIn_6 : decode cX7_isIn 6 = .ok (.ifCond .eq 7, 3) := by decide +kernel
theorem dX7_isIn_9 : decode cX7_isIn 9 = .ok (.iconst 1, 1) := by decide +kernel
theorem dX7_isIn_10 : decode cX7_isIn 10 = .ok (.goto 4, 3) := by decide +kernel
theorem dX7_isIn_13 : decode cX7_isIn 13 = .ok (.iconst 0, 1) := by decide +kernel
theorem dX7_isIn_14 : decode cX7_isIn 14 = .ok (.ireturn, 1) := by decide +kernel
theorem dX7_targets_0 : decode cX7_targets 0 = .ok (.iconst 0, 1) := by decide +kernel
theorem dX7_targets_1 : decode cX7_targets 1 = .ok (.istore_n 2, 1) := by decide +kernel
theorem dX7_targets_2 : decode cX7_targets 2 = .ok (.iconst 0, 1) := by decide +kernel
theorem dX7_targets_3 : decode cX7_targets 3 = .ok (.istore_n 3, 1) := by decide +kernel
theorem dX7_targets_4 : decode cX7_targets 4 = .ok (.iload_n 3, 1) := by decide +kernel
theorem dX7_targets_5 : decode cX7_targets 5 = .ok (.iconst 4, 1) := by decide +kernel
theorem dX7_targets_6 : decode cX7_targets 6 = .ok (.if_icmp .ge 24, 3) := by decide +kernel
theorem dX7_targets_9 : decode cX7_targets 9 = .ok (.iload_n 2, 1) := by decide +kernel
theorem dX7_targets_10 : decode cX7_targets 10 = .ok (.aload_n 0, 1) := by decide +kernel
theorem dX7_targets_11 : decode cX7_targets 11 = .ok (.getfield 15, 3) := by decide +kernel
theorem dX7_targets_14 : decode cX7_targets 14 = .ok (.iload_n 1, 1) := by decide +kernel
theorem dX7_targets_15 : decode cX7_targets 15 = .ok (.iload_n 3, 1) := by decide +kernel
theorem dX7_targets_16 : decode cX7_targets 16 = .ok (.invokevirtual 77, 3) := by decide +kernel
theorem dX7_targets_19 : decode cX7_targets 19 = .ok (.invokestatic 34, 3) := by decide +kernel
theorem dX7_targets_22 : decode cX7_targets 22 = .ok (.ior, 1) := by decide +kernel
theorem dX7_targets_23 : decode cX7_targets 23 = .ok (.istore_n 2, 1) := by decide +kernel
theorem dX7_targets_24 : decode cX7_targets 24 = .ok (.iinc 3 1, 3) := by decide +kernel
theorem dX7_targets_27 : decode cX7_targets 27 = .ok (.goto (-23), 3) := by decide +kernel
theorem dX7_targets_30 : decode cX7_targets 30 = .ok (.iload_n 2, 1) := by decide +kernel
theorem dX7_targets_31 : decode cX7_targets 31 = .ok (.ireturn, 1) := by decide +kernel
theorem dX7_targetsOfAll_0 : decode cX7_targetsOfAll 0 = .ok (.iconst 0, 1) := by decide +kernel
theorem dX7_targetsOfAll_1 : decode cX7_targetsOfAll 1 = .ok (.istore_n 2, 1) := by decide +kernel
theorem dX7_targetsOfAll_2 : decode cX7_targetsOfAll 2 = .ok (.iconst 0, 1) := by decide +kernel
theorem dX7_targetsOfAll_3 : decode cX7_targetsOfAll 3 = .ok (.istore_n 3, 1) := by decide +kernel
theorem dX7_targetsOfAll_4 : decode cX7_targetsOfAll 4 = .ok (.iload_n 3, 1) := by decide +kernel
theorem dX7_targetsOfAll_5 : decode cX7_targetsOfAll 5 = .ok (.bipush 24, 2) := by decide +kernel
theorem dX7_targetsOfAll_7 : decode cX7_targetsOfAll 7 = .ok (.if_icmp .ge 25, 3) := by decide +kernel
theorem dX7_targetsOfAll_10 : decode cX7_targetsOfAll 10 = .ok (.iload_n 1, 1) := by decide +kernel
theorem dX7_targetsOfAll_11 : decode cX7_targetsOfAll 11 = .ok (.iload_n 3, 1) := by decide +kernel
theorem dX7_targetsOfAll_12 : decode cX7_targetsOfAll 12 = .ok (.invokestatic 37, 3) := by decide +kernel
theorem dX7_targetsOfAll_15 : decode cX7_targetsOfAll 15 = .ok (.ifCond .eq 11, 3) := by decide +kernel
theorem dX7_targetsOfAll_18 : decode cX7_targetsOfAll 18 = .ok (.iload_n 2, 1) := by decide +kernel
theorem dX7_targetsOfAll_19 : decode cX7_targetsOfAll 19 = .ok (.aload_n 0, 1) := by decide +kernel
theorem dX7_targetsOfAll_20 : decode cX7_targetsOfAll 20 = .ok (.iload_n 3, 1) := by decide +kernel
theorem dX7_targetsOfAll_21 : decode cX7_targetsOfAll 21 = .ok (.invokevirtual 51, 3) := by decide +kernel
theorem dX7_targetsOfAll_24 : decode cX7_targetsOfAll 24 = .ok (.ior, 1) := by decide +kernel
theorem dX7_targetsOfAll_25 : decode cX7_targetsOfAll 25 = .ok (.istore_n 2, 1) := by decide +kernel
theorem dX7_targetsOfAll_26 : decode cX7_targetsOfAll 26 = .ok (.iinc 3 1, 3) := by decide +kernel
theorem dX7_targetsOfAll_29 : decode cX7_targetsOfAll 29 = .ok (.goto (-25), 3) := by decide +kernel
theorem dX7_targetsOfAll_32 : decode cX7_targetsOfAll 32 = .ok (.iload_n 2, 1) := by decide +kernel
theorem dX7_targetsOfAll_33 : decode cX7_targetsOfAll 33 = .ok (.ireturn, 1) := by decide +kernel
theorem dX7_reachFrom_0 : decode cX7_reachFrom 0 = .ok (.iload_n 1, 1) := by decide +kernel
theorem dX7_reachFrom_1 : decode cX7_reachFrom 1 = .ok (.istore_n 2, 1) := by decide +kernel
theorem dX7_reachFrom_2 : decode cX7_reachFrom 2 = .ok (.iload_n 1, 1) := by decide +kernel
theorem dX7_reachFrom_3 : decode cX7_reachFrom 3 = .ok (.istore_n 3, 1) := by decide +kernel
theorem dX7_reachFrom_4 : decode cX7_reachFrom 4 = .ok (.iconst 0, 1) := by decide +kernel
theorem dX7_reachFrom_5 : decode cX7_reachFrom 5 = .ok (.istore 4, 2) := by decide +kernel
theorem dX7_reachFrom_7 : decode cX7_reachFrom 7 = .ok (.iload 4, 2) := by decide +kernel
theorem dX7_reachFrom_9 : decode cX7_reachFrom 9 = .ok (.bipush 24, 2) := by decide +kernel
theorem dX7_reachFrom_11 : decode cX7_reachFrom 11 = .ok (.if_icmp .ge 27, 3) := by decide +kernel
theorem dX7_reachFrom_14 : decode cX7_reachFrom 14 = .ok (.iload_n 3, 1) := by decide +kernel
theorem dX7_reachFrom_15 : decode cX7_reachFrom 15 = .ok (.ifCond .eq 23, 3) := by decide +kernel
theorem dX7_reachFrom_18 : decode cX7_reachFrom 18 = .ok (.aload_n 0, 1) := by decide +kernel
theorem dX7_reachFrom_19 : decode cX7_reachFrom 19 = .ok (.iload_n 3, 1) := by decide +kernel
theorem dX7_reachFrom_20 : decode cX7_reachFrom 20 = .ok (.invokevirtual 44, 3) := by decide +kernel
theorem dX7_reachFrom_23 : decode cX7_reachFrom 23 = .ok (.iload_n 2, 1) := by decide +kernel
theorem dX7_reachFrom_24 : decode cX7_reachFrom 24 = .ok (.iconst (-1), 1) := by decide +kernel
theorem dX7_reachFrom_25 : decode cX7_reachFrom 25 = .ok (.ixor, 1) := by decide +kernel
theorem dX7_reachFrom_26 : decode cX7_reachFrom 26 = .ok (.iand, 1) := by decide +kernel
theorem dX7_reachFrom_27 : decode cX7_reachFrom 27 = .ok (.istore_n 3, 1) := by decide +kernel
theorem dX7_reachFrom_28 : decode cX7_reachFrom 28 = .ok (.iload_n 2, 1) := by decide +kernel
theorem dX7_reachFrom_29 : decode cX7_reachFrom 29 = .ok (.iload_n 3, 1) := by decide +kernel
theorem dX7_reachFrom_30 : decode cX7_reachFrom 30 = .ok (.ior, 1) := by decide +kernel
theorem dX7_reachFrom_31 : decode cX7_reachFrom 31 = .ok (.istore_n 2, 1) := by decide +kernel
theorem dX7_reachFrom_32 : decode cX7_reachFrom 32 = .ok (.iinc 4 1, 3) := by decide +kernel
theorem dX7_reachFrom_35 : decode cX7_reachFrom 35 = .ok (.goto (-28), 3) := by decide +kernel
theorem dX7_reachFrom_38 : decode cX7_reachFrom 38 = .ok (.iload_n 2, 1) := by decide +kernel
theorem dX7_reachFrom_39 : decode cX7_reachFrom 39 = .ok (.ireturn, 1) := by decide +kernel
theorem dX7_reach_0 : decode cX7_reach 0 = .ok (.aload_n 0, 1) := by decide +kernel
theorem dX7_reach_1 : decode cX7_reach 1 = .ok (.aload_n 0, 1) := by decide +kernel
theorem dX7_reach_2 : decode cX7_reach 2 = .ok (.bipush (-15), 2) := by decide +kernel
theorem dX7_reach_4 : decode cX7_reach 4 = .ok (.invokevirtual 19, 3) := by decide +kernel
theorem dX7_reach_7 : decode cX7_reach 7 = .ok (.invokevirtual 23, 3) := by decide +kernel
theorem dX7_reach_10 : decode cX7_reach 10 = .ok (.ireturn, 1) := by decide +kernel
theorem dX7_isHeldBySome_0 : decode cX7_isHeldBySome 0 = .ok (.iconst 0, 1) := by decide +kernel
theorem dX7_isHeldBySome_1 : decode cX7_isHeldBySome 1 = .ok (.istore_n 3, 1) := by decide +kernel
theorem dX7_isHeldBySome_2 : decode cX7_isHeldBySome 2 = .ok (.iload_n 3, 1) := by decide +kernel
theorem dX7_isHeldBySome_3 : decode cX7_isHeldBySome 3 = .ok (.aload_n 0, 1) := by decide +kernel
theorem dX7_isHeldBySome_4 : decode cX7_isHeldBySome 4 = .ok (.getfield 15, 3) := by decide +kernel
theorem dX7_isHeldBySome_7 : decode cX7_isHeldBySome 7 = .ok (.getfield 80, 3) := by decide +kernel
theorem dX7_isHeldBySome_10 : decode cX7_isHeldBySome 10 = .ok (.arraylength, 1) := by decide +kernel
theorem dX7_isHeldBySome_11 : decode cX7_isHeldBySome 11 = .ok (.if_icmp .ge 34, 3) := by decide +kernel
theorem dX7_isHeldBySome_14 : decode cX7_isHeldBySome 14 = .ok (.aload_n 0, 1) := by decide +kernel
theorem dX7_isHeldBySome_15 : decode cX7_isHeldBySome 15 = .ok (.getfield 15, 3) := by decide +kernel
theorem dX7_isHeldBySome_18 : decode cX7_isHeldBySome 18 = .ok (.getfield 80, 3) := by decide +kernel
theorem dX7_isHeldBySome_21 : decode cX7_isHeldBySome 21 = .ok (.iload_n 3, 1) := by decide +kernel
theorem dX7_isHeldBySome_22 : decode cX7_isHeldBySome 22 = .ok (.iaload, 1) := by decide +kernel
theorem dX7_isHeldBySome_23 : decode cX7_isHeldBySome 23 = .ok (.iload_n 2, 1) := by decide +kernel
theorem dX7_isHeldBySome_24 : decode cX7_isHeldBySome 24 = .ok (.if_icmp .ne 15, 3) := by decide +kernel
theorem dX7_isHeldBySome_27 : decode cX7_isHeldBySome 27 = .ok (.iload_n 1, 1) := by decide +kernel
theorem dX7_isHeldBySome_28 : decode cX7_isHeldBySome 28 = .ok (.iload_n 3, 1) := by decide +kernel
theorem dX7_isHeldBySome_29 : decode cX7_isHeldBySome 29 = .ok (.iconst 4, 1) := by decide +kernel
theorem dX7_isHeldBySome_30 : decode cX7_isHeldBySome 30 = .ok (.idiv, 1) := by decide +kernel
theorem dX7_isHeldBySome_31 : decode cX7_isHeldBySome 31 = .ok (.invokestatic 37, 3) := by decide +kernel
theorem dX7_isHeldBySome_34 : decode cX7_isHeldBySome 34 = .ok (.ifCond .eq 5, 3) := by decide +kernel
theorem dX7_isHeldBySome_37 : decode cX7_isHeldBySome 37 = .ok (.iconst 1, 1) := by decide +kernel
theorem dX7_isHeldBySome_38 : decode cX7_isHeldBySome 38 = .ok (.ireturn, 1) := by decide +kernel
theorem dX7_isHeldBySome_39 : decode cX7_isHeldBySome 39 = .ok (.iinc 3 1, 3) := by decide +kernel
theorem dX7_isHeldBySome_42 : decode cX7_isHeldBySome 42 = .ok (.goto (-40), 3) := by decide +kernel
theorem dX7_isHeldBySome_45 : decode cX7_isHeldBySome 45 = .ok (.iconst 0, 1) := by decide +kernel
theorem dX7_isHeldBySome_46 : decode cX7_isHeldBySome 46 = .ok (.ireturn, 1) := by decide +kernel
theorem dX7_reachUrnByUrn_0 : decode cX7_reachUrnByUrn 0 = .ok (.aload_n 0, 1) := by decide +kernel
theorem dX7_reachUrnByUrn_1 : decode cX7_reachUrnByUrn 1 = .ok (.bipush (-15), 2) := by decide +kernel
theorem dX7_reachUrnByUrn_3 : decode cX7_reachUrnByUrn 3 = .ok (.invokevirtual 19, 3) := by decide +kernel
theorem dX7_reachUrnByUrn_6 : decode cX7_reachUrnByUrn 6 = .ok (.istore_n 1, 1) := by decide +kernel
theorem dX7_reachUrnByUrn_7 : decode cX7_reachUrnByUrn 7 = .ok (.iconst 1, 1) := by decide +kernel
theorem dX7_reachUrnByUrn_8 : decode cX7_reachUrnByUrn 8 = .ok (.istore_n 2, 1) := by decide +kernel
theorem dX7_reachUrnByUrn_9 : decode cX7_reachUrnByUrn 9 = .ok (.iconst 0, 1) := by decide +kernel
theorem dX7_reachUrnByUrn_10 : decode cX7_reachUrnByUrn 10 = .ok (.istore_n 3, 1) := by decide +kernel
theorem dX7_reachUrnByUrn_11 : decode cX7_reachUrnByUrn 11 = .ok (.iload_n 3, 1) := by decide +kernel
theorem dX7_reachUrnByUrn_12 : decode cX7_reachUrnByUrn 12 = .ok (.bipush 24, 2) := by decide +kernel
theorem dX7_reachUrnByUrn_14 : decode cX7_reachUrnByUrn 14 = .ok (.if_icmp .gt 60, 3) := by decide +kernel
theorem dX7_reachUrnByUrn_17 : decode cX7_reachUrnByUrn 17 = .ok (.iload_n 2, 1) := by decide +kernel
theorem dX7_reachUrnByUrn_18 : decode cX7_reachUrnByUrn 18 = .ok (.ifCond .eq 56, 3) := by decide +kernel
theorem dX7_reachUrnByUrn_21 : decode cX7_reachUrnByUrn 21 = .ok (.iconst 0, 1) := by decide +kernel
theorem dX7_reachUrnByUrn_22 : decode cX7_reachUrnByUrn 22 = .ok (.istore_n 2, 1) := by decide +kernel
theorem dX7_reachUrnByUrn_23 : decode cX7_reachUrnByUrn 23 = .ok (.iconst 0, 1) := by decide +kernel
theorem dX7_reachUrnByUrn_24 : decode cX7_reachUrnByUrn 24 = .ok (.istore 4, 2) := by decide +kernel
theorem dX7_reachUrnByUrn_26 : decode cX7_reachUrnByUrn 26 = .ok (.iload 4, 2) := by decide +kernel
theorem dX7_reachUrnByUrn_28 : decode cX7_reachUrnByUrn 28 = .ok (.bipush 24, 2) := by decide +kernel
theorem dX7_reachUrnByUrn_30 : decode cX7_reachUrnByUrn 30 = .ok (.if_icmp .ge 38, 3) := by decide +kernel
theorem dX7_reachUrnByUrn_33 : decode cX7_reachUrnByUrn 33 = .ok (.iload_n 1, 1) := by decide +kernel
theorem dX7_reachUrnByUrn_34 : decode cX7_reachUrnByUrn 34 = .ok (.iload 4, 2) := by decide +kernel
theorem dX7_reachUrnByUrn_36 : decode cX7_reachUrnByUrn 36 = .ok (.invokestatic 37, 3) := by decide +kernel
theorem dX7_reachUrnByUrn_39 : decode cX7_reachUrnByUrn 39 = .ok (.ifCond .ne 23, 3) := by decide +kernel
theorem dX7_reachUrnByUrn_42 : decode cX7_reachUrnByUrn 42 = .ok (.aload_n 0, 1) := by decide +kernel
theorem dX7_reachUrnByUrn_43 : decode cX7_reachUrnByUrn 43 = .ok (.iload_n 1, 1) := by decide +kernel
theorem dX7_reachUrnByUrn_44 : decode cX7_reachUrnByUrn 44 = .ok (.iload 4, 2) := by decide +kernel
theorem dX7_reachUrnByUrn_46 : decode cX7_reachUrnByUrn 46 = .ok (.invokevirtual 41, 3) := by decide +kernel
theorem dX7_reachUrnByUrn_49 : decode cX7_reachUrnByUrn 49 = .ok (.ifCond .eq 13, 3) := by decide +kernel
theorem dX7_reachUrnByUrn_52 : decode cX7_reachUrnByUrn 52 = .ok (.iload_n 1, 1) := by decide +kernel
theorem dX7_reachUrnByUrn_53 : decode cX7_reachUrnByUrn 53 = .ok (.iload 4, 2) := by decide +kernel
theorem dX7_reachUrnByUrn_55 : decode cX7_reachUrnByUrn 55 = .ok (.invokestatic 34, 3) := by decide +kernel
theorem dX7_reachUrnByUrn_58 : decode cX7_reachUrnByUrn 58 = .ok (.ior, 1) := by decide +kernel
theorem dX7_reachUrnByUrn_59 : decode cX7_reachUrnByUrn 59 = .ok (.istore_n 1, 1) := by decide +kernel
theorem dX7_reachUrnByUrn_60 : decode cX7_reachUrnByUrn 60 = .ok (.iconst 1, 1) := by decide +kernel
theorem dX7_reachUrnByUrn_61 : decode cX7_reachUrnByUrn 61 = .ok (.istore_n 2, 1) := by decide +kernel
theorem dX7_reachUrnByUrn_62 : decode cX7_reachUrnByUrn 62 = .ok (.iinc 4 1, 3) := by decide +kernel
theorem dX7_reachUrnByUrn_65 : decode cX7_reachUrnByUrn 65 = .ok (.goto (-39), 3) := by decide +kernel
theorem dX7_reachUrnByUrn_68 : decode cX7_reachUrnByUrn 68 = .ok (.iinc 3 1, 3) := by decide +kernel
theorem dX7_reachUrnByUrn_71 : decode cX7_reachUrnByUrn 71 = .ok (.goto (-60), 3) := by decide +kernel
theorem dX7_reachUrnByUrn_74 : decode cX7_reachUrnByUrn 74 = .ok (.iload_n 1, 1) := by decide +kernel
theorem dX7_reachUrnByUrn_75 : decode cX7_reachUrnByUrn 75 = .ok (.ireturn, 1) := by decide +kernel
theorem dX7_distance_0 : decode cX7_distance 0 = .ok (.iload_n 1, 1) := by decide +kernel
theorem dX7_distance_1 : decode cX7_distance 1 = .ok (.istore_n 3, 1) := by decide +kernel
theorem dX7_distance_2 : decode cX7_distance 2 = .ok (.iload_n 1, 1) := by decide +kernel
theorem dX7_distance_3 : decode cX7_distance 3 = .ok (.istore 4, 2) := by decide +kernel
theorem dX7_distance_5 : decode cX7_distance 5 = .ok (.iconst 0, 1) := by decide +kernel
theorem dX7_distance_6 : decode cX7_distance 6 = .ok (.istore 5, 2) := by decide +kernel
theorem dX7_distance_8 : decode cX7_distance 8 = .ok (.iload 5, 2) := by decide +kernel
theorem dX7_distance_10 : decode cX7_distance 10 = .ok (.bipush 24, 2) := by decide +kernel
theorem dX7_distance_12 : decode cX7_distance 12 = .ok (.if_icmp .ge 43, 3) := by decide +kernel
theorem dX7_distance_15 : decode cX7_distance 15 = .ok (.iload 4, 2) := by decide +kernel
theorem dX7_distance_17 : decode cX7_distance 17 = .ok (.ifCond .eq 38, 3) := by decide +kernel
theorem dX7_distance_20 : decode cX7_distance 20 = .ok (.iload 4, 2) := by decide +kernel
theorem dX7_distance_22 : decode cX7_distance 22 = .ok (.iload_n 2, 1) := by decide +kernel
theorem dX7_distance_23 : decode cX7_distance 23 = .ok (.invokestatic 37, 3) := by decide +kernel
theorem dX7_distance_26 : decode cX7_distance 26 = .ok (.ifCond .eq 6, 3) := by decide +kernel
theorem dX7_distance_29 : decode cX7_distance 29 = .ok (.iload 5, 2) := by decide +kernel
theorem dX7_distance_31 : decode cX7_distance 31 = .ok (.ireturn, 1) := by decide +kernel
theorem dX7_distance_32 : decode cX7_distance 32 = .ok (.aload_n 0, 1) := by decide +kernel
theorem dX7_distance_33 : decode cX7_distance 33 = .ok (.iload 4, 2) := by decide +kernel
theorem dX7_distance_35 : decode cX7_distance 35 = .ok (.invokevirtual 44, 3) := by decide +kernel
theorem dX7_distance_38 : decode cX7_distance 38 = .ok (.iload_n 3, 1) := by decide +kernel
theorem dX7_distance_39 : decode cX7_distance 39 = .ok (.iconst (-1), 1) := by decide +kernel
theorem dX7_distance_40 : decode cX7_distance 40 = .ok (.ixor, 1) := by decide +kernel
theorem dX7_distance_41 : decode cX7_distance 41 = .ok (.iand, 1) := by decide +kernel
theorem dX7_distance_42 : decode cX7_distance 42 = .ok (.istore 4, 2) := by decide +kernel
theorem dX7_distance_44 : decode cX7_distance 44 = .ok (.iload_n 3, 1) := by decide +kernel
theorem dX7_distance_45 : decode cX7_distance 45 = .ok (.iload 4, 2) := by decide +kernel
theorem dX7_distance_47 : decode cX7_distance 47 = .ok (.ior, 1) := by decide +kernel
theorem dX7_distance_48 : decode cX7_distance 48 = .ok (.istore_n 3, 1) := by decide +kernel
theorem dX7_distance_49 : decode cX7_distance 49 = .ok (.iinc 5 1, 3) := by decide +kernel
theorem dX7_distance_52 : decode cX7_distance 52 = .ok (.goto (-44), 3) := by decide +kernel
theorem dX7_distance_55 : decode cX7_distance 55 = .ok (.bipush (-15), 2) := by decide +kernel
theorem dX7_distance_57 : decode cX7_distance 57 = .ok (.ireturn, 1) := by decide +kernel
theorem dX7_neededNames_0 : decode cX7_neededNames 0 = .ok (.iconst 0, 1) := by decide +kernel
theorem dX7_neededNames_1 : decode cX7_neededNames 1 = .ok (.istore_n 2, 1) := by decide +kernel
theorem dX7_neededNames_2 : decode cX7_neededNames 2 = .ok (.aload_n 0, 1) := by decide +kernel
theorem dX7_neededNames_3 : decode cX7_neededNames 3 = .ok (.invokevirtual 47, 3) := by decide +kernel
theorem dX7_neededNames_6 : decode cX7_neededNames 6 = .ok (.iload_n 1, 1) := by decide +kernel
theorem dX7_neededNames_7 : decode cX7_neededNames 7 = .ok (.invokestatic 37, 3) := by decide +kernel
theorem dX7_neededNames_10 : decode cX7_neededNames 10 = .ok (.ifCond .ne 5, 3) := by decide +kernel
theorem dX7_neededNames_13 : decode cX7_neededNames 13 = .ok (.iload_n 2, 1) := by decide +kernel
theorem dX7_neededNames_14 : decode cX7_neededNames 14 = .ok (.ireturn, 1) := by decide +kernel
theorem dX7_neededNames_15 : decode cX7_neededNames 15 = .ok (.iconst 0, 1) := by decide +kernel
theorem dX7_neededNames_16 : decode cX7_neededNames 16 = .ok (.istore_n 3, 1) := by decide +kernel
theorem dX7_neededNames_17 : decode cX7_neededNames 17 = .ok (.iload_n 3, 1) := by decide +kernel
theorem dX7_neededNames_18 : decode cX7_neededNames 18 = .ok (.bipush 6, 2) := by decide +kernel
theorem dX7_neededNames_20 : decode cX7_neededNames 20 = .ok (.if_icmp .ge 31, 3) := by decide +kernel
theorem dX7_neededNames_23 : decode cX7_neededNames 23 = .ok (.aload_n 0, 1) := by decide +kernel
theorem dX7_neededNames_24 : decode cX7_neededNames 24 = .ok (.aload_n 0, 1) := by decide +kernel
theorem dX7_neededNames_25 : decode cX7_neededNames 25 = .ok (.iload_n 3, 1) := by decide +kernel
theorem dX7_neededNames_26 : decode cX7_neededNames 26 = .ok (.invokevirtual 19, 3) := by decide +kernel
theorem dX7_neededNames_29 : decode cX7_neededNames 29 = .ok (.invokevirtual 23, 3) := by decide +kernel
theorem dX7_neededNames_32 : decode cX7_neededNames 32 = .ok (.iload_n 1, 1) := by decide +kernel
theorem dX7_neededNames_33 : decode cX7_neededNames 33 = .ok (.invokestatic 37, 3) := by decide +kernel
theorem dX7_neededNames_36 : decode cX7_neededNames 36 = .ok (.ifCond .ne 9, 3) := by decide +kernel
theorem dX7_neededNames_39 : decode cX7_neededNames 39 = .ok (.iload_n 2, 1) := by decide +kernel
theorem dX7_neededNames_40 : decode cX7_neededNames 40 = .ok (.iconst 1, 1) := by decide +kernel
theorem dX7_neededNames_41 : decode cX7_neededNames 41 = .ok (.iload_n 3, 1) := by decide +kernel
theorem dX7_neededNames_42 : decode cX7_neededNames 42 = .ok (.ishl, 1) := by decide +kernel
theorem dX7_neededNames_43 : decode cX7_neededNames 43 = .ok (.ior, 1) := by decide +kernel
theorem dX7_neededNames_44 : decode cX7_neededNames 44 = .ok (.istore_n 2, 1) := by decide +kernel
theorem dX7_neededNames_45 : decode cX7_neededNames 45 = .ok (.iinc 3 1, 3) := by decide +kernel
theorem dX7_neededNames_48 : decode cX7_neededNames 48 = .ok (.goto (-31), 3) := by decide +kernel
theorem dX7_neededNames_51 : decode cX7_neededNames 51 = .ok (.iload_n 2, 1) := by decide +kernel
theorem dX7_neededNames_52 : decode cX7_neededNames 52 = .ok (.ireturn, 1) := by decide +kernel
theorem dX7_ringLength_0 : decode cX7_ringLength 0 = .ok (.aload_n 0, 1) := by decide +kernel
theorem dX7_ringLength_1 : decode cX7_ringLength 1 = .ok (.aload_n 0, 1) := by decide +kernel
theorem dX7_ringLength_2 : decode cX7_ringLength 2 = .ok (.iload_n 1, 1) := by decide +kernel
theorem dX7_ringLength_3 : decode cX7_ringLength 3 = .ok (.invokevirtual 51, 3) := by decide +kernel
theorem dX7_ringLength_6 : decode cX7_ringLength 6 = .ok (.iload_n 1, 1) := by decide +kernel
theorem dX7_ringLength_7 : decode cX7_ringLength 7 = .ok (.invokevirtual 54, 3) := by decide +kernel
theorem dX7_ringLength_10 : decode cX7_ringLength 10 = .ok (.istore_n 2, 1) := by decide +kernel
theorem dX7_ringLength_11 : decode cX7_ringLength 11 = .ok (.iload_n 2, 1) := by decide +kernel
theorem dX7_ringLength_12 : decode cX7_ringLength 12 = .ok (.bipush (-15), 2) := by decide +kernel
theorem dX7_ringLength_14 : decode cX7_ringLength 14 = .ok (.if_icmp .ne 8, 3) := by decide +kernel
theorem dX7_ringLength_17 : decode cX7_ringLength 17 = .ok (.bipush (-15), 2) := by decide +kernel
theorem dX7_ringLength_19 : decode cX7_ringLength 19 = .ok (.goto 6, 3) := by decide +kernel
theorem dX7_ringLength_22 : decode cX7_ringLength 22 = .ok (.iload_n 2, 1) := by decide +kernel
theorem dX7_ringLength_23 : decode cX7_ringLength 23 = .ok (.iconst 1, 1) := by decide +kernel
theorem dX7_ringLength_24 : decode cX7_ringLength 24 = .ok (.iadd, 1) := by decide +kernel
theorem dX7_ringLength_25 : decode cX7_ringLength 25 = .ok (.ireturn, 1) := by decide +kernel
theorem dX7_leftOver_0 : decode cX7_leftOver 0 = .ok (.aload_n 0, 1) := by decide +kernel
theorem dX7_leftOver_1 : decode cX7_leftOver 1 = .ok (.aload_n 0, 1) := by decide +kernel
theorem dX7_leftOver_2 : decode cX7_leftOver 2 = .ok (.bipush (-15), 2) := by decide +kernel
theorem dX7_leftOver_4 : decode cX7_leftOver 4 = .ok (.invokevirtual 19, 3) := by decide +kernel
theorem dX7_leftOver_7 : decode cX7_leftOver 7 = .ok (.aload_n 0, 1) := by decide +kernel
theorem dX7_leftOver_8 : decode cX7_leftOver 8 = .ok (.iconst 1, 1) := by decide +kernel
theorem dX7_leftOver_9 : decode cX7_leftOver 9 = .ok (.invokevirtual 26, 3) := by decide +kernel
theorem dX7_leftOver_12 : decode cX7_leftOver 12 = .ok (.ior, 1) := by decide +kernel
theorem dX7_leftOver_13 : decode cX7_leftOver 13 = .ok (.invokevirtual 23, 3) := by decide +kernel
theorem dX7_leftOver_16 : decode cX7_leftOver 16 = .ok (.istore_n 1, 1) := by decide +kernel
theorem dX7_leftOver_17 : decode cX7_leftOver 17 = .ok (.iconst 0, 1) := by decide +kernel
theorem dX7_leftOver_18 : decode cX7_leftOver 18 = .ok (.istore_n 2, 1) := by decide +kernel
theorem dX7_leftOver_19 : decode cX7_leftOver 19 = .ok (.iconst 0, 1) := by decide +kernel
theorem dX7_leftOver_20 : decode cX7_leftOver 20 = .ok (.istore_n 3, 1) := by decide +kernel
theorem dX7_leftOver_21 : decode cX7_leftOver 21 = .ok (.iload_n 3, 1) := by decide +kernel
theorem dX7_leftOver_22 : decode cX7_leftOver 22 = .ok (.bipush 24, 2) := by decide +kernel
theorem dX7_leftOver_24 : decode cX7_leftOver 24 = .ok (.if_icmp .ge 35, 3) := by decide +kernel
theorem dX7_leftOver_27 : decode cX7_leftOver 27 = .ok (.aload_n 0, 1) := by decide +kernel
theorem dX7_leftOver_28 : decode cX7_leftOver 28 = .ok (.getfield 15, 3) := by decide +kernel
theorem dX7_leftOver_31 : decode cX7_leftOver 31 = .ok (.iload_n 3, 1) := by decide +kernel
theorem dX7_leftOver_32 : decode cX7_leftOver 32 = .ok (.invokevirtual 58, 3) := by decide +kernel
theorem dX7_leftOver_35 : decode cX7_leftOver 35 = .ok (.ifCond .eq 18, 3) := by decide +kernel
theorem dX7_leftOver_38 : decode cX7_leftOver 38 = .ok (.iload_n 1, 1) := by decide +kernel
theorem dX7_leftOver_39 : decode cX7_leftOver 39 = .ok (.iload_n 3, 1) := by decide +kernel
theorem dX7_leftOver_40 : decode cX7_leftOver 40 = .ok (.invokestatic 37, 3) := by decide +kernel
theorem dX7_leftOver_43 : decode cX7_leftOver 43 = .ok (.ifCond .ne 10, 3) := by decide +kernel
theorem dX7_leftOver_46 : decode cX7_leftOver 46 = .ok (.iload_n 2, 1) := by decide +kernel
theorem dX7_leftOver_47 : decode cX7_leftOver 47 = .ok (.iload_n 3, 1) := by decide +kernel
theorem dX7_leftOver_48 : decode cX7_leftOver 48 = .ok (.invokestatic 34, 3) := by decide +kernel
theorem dX7_leftOver_51 : decode cX7_leftOver 51 = .ok (.ior, 1) := by decide +kernel
theorem dX7_leftOver_52 : decode cX7_leftOver 52 = .ok (.istore_n 2, 1) := by decide +kernel
theorem dX7_leftOver_53 : decode cX7_leftOver 53 = .ok (.iinc 3 1, 3) := by decide +kernel
theorem dX7_leftOver_56 : decode cX7_leftOver 56 = .ok (.goto (-35), 3) := by decide +kernel
theorem dX7_leftOver_59 : decode cX7_leftOver 59 = .ok (.iload_n 2, 1) := by decide +kernel
theorem dX7_leftOver_60 : decode cX7_leftOver 60 = .ok (.ireturn, 1) := by decide +kernel
theorem dX7_weighAll_0 : decode cX7_weighAll 0 = .ok (.iconst 0, 1) := by decide +kernel
theorem dX7_weighAll_1 : decode cX7_weighAll 1 = .ok (.istore_n 1, 1) := by decide +kernel
theorem dX7_weighAll_2 : decode cX7_weighAll 2 = .ok (.iload_n 1, 1) := by decide +kernel
theorem dX7_weighAll_3 : decode cX7_weighAll 3 = .ok (.bipush 24, 2) := by decide +kernel
theorem dX7_weighAll_5 : decode cX7_weighAll 5 = .ok (.if_icmp .ge 61, 3) := by decide +kernel
theorem dX7_weighAll_8 : decode cX7_weighAll 8 = .ok (.aload_n 0, 1) := by decide +kernel
theorem dX7_weighAll_9 : decode cX7_weighAll 9 = .ok (.getfield 15, 3) := by decide +kernel
theorem dX7_weighAll_12 : decode cX7_weighAll 12 = .ok (.iload_n 1, 1) := by decide +kernel
theorem dX7_weighAll_13 : decode cX7_weighAll 13 = .ok (.invokevirtual 68, 3) := by decide +kernel
theorem dX7_weighAll_16 : decode cX7_weighAll 16 = .ok (.istore_n 2, 1) := by decide +kernel
theorem dX7_weighAll_17 : decode cX7_weighAll 17 = .ok (.aload_n 0, 1) := by decide +kernel
theorem dX7_weighAll_18 : decode cX7_weighAll 18 = .ok (.getfield 15, 3) := by decide +kernel
theorem dX7_weighAll_21 : decode cX7_weighAll 21 = .ok (.iload_n 1, 1) := by decide +kernel
theorem dX7_weighAll_22 : decode cX7_weighAll 22 = .ok (.invokevirtual 71, 3) := by decide +kernel
theorem dX7_weighAll_25 : decode cX7_weighAll 25 = .ok (.istore_n 3, 1) := by decide +kernel
theorem dX7_weighAll_26 : decode cX7_weighAll 26 = .ok (.aload_n 0, 1) := by decide +kernel
theorem dX7_weighAll_27 : decode cX7_weighAll 27 = .ok (.getfield 9, 3) := by decide +kernel
theorem dX7_weighAll_30 : decode cX7_weighAll 30 = .ok (.iload_n 1, 1) := by decide +kernel
theorem dX7_weighAll_31 : decode cX7_weighAll 31 = .ok (.aload_n 0, 1) := by decide +kernel
theorem dX7_weighAll_32 : decode cX7_weighAll 32 = .ok (.getfield 15, 3) := by decide +kernel
theorem dX7_weighAll_35 : decode cX7_weighAll 35 = .ok (.iload_n 1, 1) := by decide +kernel
theorem dX7_weighAll_36 : decode cX7_weighAll 36 = .ok (.invokevirtual 58, 3) := by decide +kernel
theorem dX7_weighAll_39 : decode cX7_weighAll 39 = .ok (.ifCond .eq 19, 3) := by decide +kernel
theorem dX7_weighAll_42 : decode cX7_weighAll 42 = .ok (.iload_n 2, 1) := by decide +kernel
theorem dX7_weighAll_43 : decode cX7_weighAll 43 = .ok (.iconst 5, 1) := by decide +kernel
theorem dX7_weighAll_44 : decode cX7_weighAll 44 = .ok (.imul, 1) := by decide +kernel
theorem dX7_weighAll_45 : decode cX7_weighAll 45 = .ok (.iload_n 3, 1) := by decide +kernel
theorem dX7_weighAll_46 : decode cX7_weighAll 46 = .ok (.iadd, 1) := by decide +kernel
theorem dX7_weighAll_47 : decode cX7_weighAll 47 = .ok (.bipush 24, 2) := by decide +kernel
theorem dX7_weighAll_49 : decode cX7_weighAll 49 = .ok (.imul, 1) := by decide +kernel
theorem dX7_weighAll_50 : decode cX7_weighAll 50 = .ok (.bipush 24, 2) := by decide +kernel
theorem dX7_weighAll_52 : decode cX7_weighAll 52 = .ok (.iadd, 1) := by decide +kernel
theorem dX7_weighAll_53 : decode cX7_weighAll 53 = .ok (.iload_n 1, 1) := by decide +kernel
theorem dX7_weighAll_54 : decode cX7_weighAll 54 = .ok (.isub, 1) := by decide +kernel
theorem dX7_weighAll_55 : decode cX7_weighAll 55 = .ok (.goto 4, 3) := by decide +kernel
theorem dX7_weighAll_58 : decode cX7_weighAll 58 = .ok (.iconst 0, 1) := by decide +kernel
theorem dX7_weighAll_59 : decode cX7_weighAll 59 = .ok (.iastore, 1) := by decide +kernel
theorem dX7_weighAll_60 : decode cX7_weighAll 60 = .ok (.iinc 1 1, 3) := by decide +kernel
theorem dX7_weighAll_63 : decode cX7_weighAll 63 = .ok (.goto (-61), 3) := by decide +kernel
theorem dX7_weighAll_66 : decode cX7_weighAll 66 = .ok (.return_, 1) := by decide +kernel
theorem dX7_heavierThan_0 : decode cX7_heavierThan 0 = .ok (.iconst 0, 1) := by decide +kernel
theorem dX7_heavierThan_1 : decode cX7_heavierThan 1 = .ok (.istore_n 2, 1) := by decide +kernel
theorem dX7_heavierThan_2 : decode cX7_heavierThan 2 = .ok (.aload_n 0, 1) := by decide +kernel
theorem dX7_heavierThan_3 : decode cX7_heavierThan 3 = .ok (.getfield 9, 3) := by decide +kernel
theorem dX7_heavierThan_6 : decode cX7_heavierThan 6 = .ok (.astore_n 3, 1) := by decide +kernel
theorem dX7_heavierThan_7 : decode cX7_heavierThan 7 = .ok (.aload_n 3, 1) := by decide +kernel
theorem dX7_heavierThan_8 : decode cX7_heavierThan 8 = .ok (.arraylength, 1) := by decide +kernel
theorem dX7_heavierThan_9 : decode cX7_heavierThan 9 = .ok (.istore 4, 2) := by decide +kernel
theorem dX7_heavierThan_11 : decode cX7_heavierThan 11 = .ok (.iconst 0, 1) := by decide +kernel
theorem dX7_heavierThan_12 : decode cX7_heavierThan 12 = .ok (.istore 5, 2) := by decide +kernel
theorem dX7_heavierThan_14 : decode cX7_heavierThan 14 = .ok (.iload 5, 2) := by decide +kernel
theorem dX7_heavierThan_16 : decode cX7_heavierThan 16 = .ok (.iload 4, 2) := by decide +kernel
theorem dX7_heavierThan_18 : decode cX7_heavierThan 18 = .ok (.if_icmp .ge 24, 3) := by decide +kernel
theorem dX7_heavierThan_21 : decode cX7_heavierThan 21 = .ok (.aload_n 3, 1) := by decide +kernel
theorem dX7_heavierThan_22 : decode cX7_heavierThan 22 = .ok (.iload 5, 2) := by decide +kernel
theorem dX7_heavierThan_24 : decode cX7_heavierThan 24 = .ok (.iaload, 1) := by decide +kernel
theorem dX7_heavierThan_25 : decode cX7_heavierThan 25 = .ok (.istore 6, 2) := by decide +kernel
theorem dX7_heavierThan_27 : decode cX7_heavierThan 27 = .ok (.iload 6, 2) := by decide +kernel
theorem dX7_heavierThan_29 : decode cX7_heavierThan 29 = .ok (.iload_n 1, 1) := by decide +kernel
theorem dX7_heavierThan_30 : decode cX7_heavierThan 30 = .ok (.if_icmp .le 6, 3) := by decide +kernel
theorem dX7_heavierThan_33 : decode cX7_heavierThan 33 = .ok (.iinc 2 1, 3) := by decide +kernel
theorem dX7_heavierThan_36 : decode cX7_heavierThan 36 = .ok (.iinc 5 1, 3) := by decide +kernel
theorem dX7_heavierThan_39 : decode cX7_heavierThan 39 = .ok (.goto (-25), 3) := by decide +kernel
theorem dX7_heavierThan_42 : decode cX7_heavierThan 42 = .ok (.iload_n 2, 1) := by decide +kernel
theorem dX7_heavierThan_43 : decode cX7_heavierThan 43 = .ok (.ireturn, 1) := by decide +kernel
def f_X3_saveNow (μ : mu_T)  : Option (Int × mu_T) :=
  bd_ (f_X2_copyFrom_h0h0 μ 10 0) (fun μ8 => wz_ μ8 138 3 1 (fun μ13 => bd_ (f_X2_urns μ13) (fun v20 => some (v20, μ13))))
set_option maxHeartbeats 4000000 in
set_option maxRecDepth 100000 in
theorem c_X3_saveNow {G : gp_} {ad : Nat → Nat} (μ : mu_T)  (a : Int) (μr : mu_T) (h : f_X3_saveNow μ  = some (a, μr)) : mi_ yX3_saveNow cX3_saveNow 1 (some .int) ({ frames := 3, cells := 0, slots := 0, locals := 60 } : Room) G 151 ad (ceX G ad) [.ref (ad 138)] μ a μr := by
  refine mi_in (own := "UrnHeap$History") (lv := [(0, .ref (ad 138))]) (by decide) rfl rfl (Nat.le_of_ble_eq_true rfl) (fun X C E => ?_)
  unfold f_X3_saveNow at h
  refine xx_aload_n C 1 rfl 0 dX3_saveNow_0 rfl rfl ?_
  refine xx_getr (fi := 2) C 4 rfl (by decide) (ceX_138 _ _ _) rfl in_X3 (by decide) rfl rfl w_296 dX3_saveNow_1 ?_
  refine xx_aload_n C 5 rfl 0 dX3_saveNow_4 rfl rfl ?_
  refine xx_getr (fi := 0) C 8 rfl (by decide) (ceX_138 _ _ _) rfl in_X3 (by decide) rfl rfl w_294 dX3_saveNow_5 ?_
  refine xx_cVv (As := [.ref (ad 0)]) (st := []) (o := 120) C 11 rfl (by decide) (ceX_120 _ _ _) rfl rfl ca_X2_copyFrom cv_X2_copyFrom w_429 rfl ⟨Nat.le_of_ble_eq_true rfl, Nat.le_of_ble_eq_true rfl⟩ ⟨Nat.le_of_ble_eq_true rfl, Nat.le_of_ble_eq_true rfl⟩ (Nat.le_of_ble_eq_true rfl) dX3_saveNow_8 (fun μ8 e9 => c_X2_copyFrom_h0h0 _ 10 (by omega) 0 (by omega) μ8 e9) h (fun μ8 h => ?_) rfl
  refine xx_aload_n C 12 rfl 0 dX3_saveNow_11 rfl rfl ?_
  refine xx_iconst C 13 rfl dX3_saveNow_12 ?_
  refine xx_putz (fi := 3) (j := 3) C 16 rfl (by decide) (ceX_138 _ _ _) (puX_138_3 _ _ _ _) rfl in_X3 tyX3 tyX3_ok nmX3 (by decide) (Nat.le_of_ble_eq_true rfl) ⟨rfl, rfl, rfl⟩ w_297 dX3_saveNow_13 h (fun μ13 h => ?_)
  refine xx_aload_n C 17 rfl 0 dX3_saveNow_16 rfl rfl ?_
  refine xx_getr (fi := 0) C 20 rfl (by decide) (ceX_138 _ _ _) rfl in_X3 (by decide) rfl rfl w_294 dX3_saveNow_17 ?_
  refine xx_cVip (As := []) (st := []) (o := 0) C 23 rfl (by decide) (ceX_0 _ _ _) rfl rfl ca_X2_urns cv_X2_urns w_1149 rfl ⟨Nat.le_of_ble_eq_true rfl, Nat.le_of_ble_eq_true rfl⟩ ⟨Nat.le_of_ble_eq_true rfl, Nat.le_of_ble_eq_true rfl⟩ (Nat.le_of_ble_eq_true rfl) dX3_saveNow_20 (fun v20 e9 => c_X2_urns _ v20 e9) h (fun v20 h => ?_) rfl
  exact xx_iret C E rfl ⟨Nat.le_of_ble_eq_true rfl, Nat.le_of_ble_eq_true rfl⟩ dX3_saveNow_23 h

def f_X3_restoreSaved (μ : mu_T)  : Option (Int × mu_T) :=
  nm_ (μ 138 3) (fun v1 => eq_ v1 0
      (some ((-15), μ))
      (bd_ (f_X2_copyFrom_h0h0 μ 0 10) (fun μ18 => wf_ μ18 138 5 0 (fun μ23 => bd_ (f_X2_urns μ23) (fun v30 => some (v30, μ23))))))
set_option maxHeartbeats 4000000 in
set_option maxRecDepth 100000 in
theorem c_X3_restoreSaved {G : gp_} {ad : Nat → Nat} (μ : mu_T)  (a : Int) (μr : mu_T) (h : f_X3_restoreSaved μ  = some (a, μr)) : mi_ yX3_restoreSaved cX3_restoreSaved 1 (some .int) ({ frames := 3, cells := 0, slots := 0, locals := 60 } : Room) G 151 ad (ceX G ad) [.ref (ad 138)] μ a μr := by
  refine mi_in (own := "UrnHeap$History") (lv := [(0, .ref (ad 138))]) (by decide) rfl rfl (Nat.le_of_ble_eq_true rfl) (fun X C E => ?_)
  unfold f_X3_restoreSaved at h
  refine xx_aload_n C 1 rfl 0 dX3_restoreSaved_0 rfl rfl ?_
  refine xx_geti (fi := 3) (j := 3) C 4 rfl (by decide) (ceX_138 _ _ _) rfl in_X3 (by decide) rfl rfl w_297 dX3_restoreSaved_1 h (fun v1 h => ?_)
  refine xx_if_ne (tgt := 10) C 7 rfl dX3_restoreSaved_4 (by decide) h (fun h => ?_) (fun h => ?_)
  · refine xx_aload_n C 11 rfl 0 dX3_restoreSaved_10 rfl rfl ?_
    refine xx_getr (fi := 0) C 14 rfl (by decide) (ceX_138 _ _ _) rfl in_X3 (by decide) rfl rfl w_294 dX3_restoreSaved_11 ?_
    refine xx_aload_n C 15 rfl 0 dX3_restoreSaved_14 rfl rfl ?_
    refine xx_getr (fi := 2) C 18 rfl (by decide) (ceX_138 _ _ _) rfl in_X3 (by decide) rfl rfl w_296 dX3_restoreSaved_15 ?_
    refine xx_cVv (As := [.ref (ad 120)]) (st := []) (o := 0) C 21 rfl (by decide) (ceX_0 _ _ _) rfl rfl ca_X2_copyFrom cv_X2_copyFrom w_429 rfl ⟨Nat.le_of_ble_eq_true rfl, Nat.le_of_ble_eq_true rfl⟩ ⟨Nat.le_of_ble_eq_true rfl, Nat.le_of_ble_eq_true rfl⟩ (Nat.le_of_ble_eq_true rfl) dX3_restoreSaved_18 (fun μ18 e9 => c_X2_copyFrom_h0h0 _ 0 (by omega) 10 (by omega) μ18 e9) h (fun μ18 h => ?_) rfl
    refine xx_aload_n C 22 rfl 0 dX3_restoreSaved_21 rfl rfl ?_
    refine xx_iconst C 23 rfl dX3_restoreSaved_22 ?_
    refine xx_puti (fi := 5) (j := 5) C 26 rfl (by decide) (ceX_138 _ _ _) (puX_138_5 _ _ _ _) rfl in_X3 tyX3 tyX3_ok nmX3 (by decide) (Nat.le_of_ble_eq_true rfl) ⟨rfl, rfl, rfl⟩ w_299 dX3_restoreSaved_23 h (fun μ23 h => ?_)
    refine xx_aload_n C 27 rfl 0 dX3_restoreSaved_26 rfl rfl ?_
    refine xx_getr (fi := 0) C 30 rfl (by decide) (ceX_138 _ _ _) rfl in_X3 (by decide) rfl rfl w_294 dX3_restoreSaved_27 ?_
    refine xx_cVip (As := []) (st := []) (o := 0) C 33 rfl (by decide) (ceX_0 _ _ _) rfl rfl ca_X2_urns cv_X2_urns w_1149 rfl ⟨Nat.le_of_ble_eq_true rfl, Nat.le_of_ble_eq_true rfl⟩ ⟨Nat.le_of_ble_eq_true rfl, Nat.le_of_ble_eq_true rfl⟩ (Nat.le_of_ble_eq_true rfl) dX3_restoreSaved_30 (fun v30 e9 => c_X2_urns _ v30 e9) h (fun v30 h => ?_) rfl
    exact xx_iret C E rfl ⟨Nat.le_of_ble_eq_true rfl, Nat.le_of_ble_eq_true rfl⟩ dX3_restoreSaved_33 h
  · refine xx_bipush C 9 rfl dX3_restoreSaved_7 (by decide) ?_
    exact xx_iret C E rfl ⟨Nat.le_of_ble_eq_true rfl, Nat.le_of_ble_eq_true rfl⟩ dX3_restoreSaved_9 h

def f_X5_letterOf (μ : mu_T) (a0 : Int) : Option Int :=
  ts_ a0 [0, 1, 2] [some 119,
      some 103,
      some 98]
      (some 46)
set_option maxHeartbeats 4000000 in
set_option maxRecDepth 100000 in
theorem c_X5_letterOf {G : gp_} {ad : Nat → Nat} (μ : mu_T) (a0 : Int) (a : Int) (h : f_X5_letterOf μ a0 = some a) : mi_ yX5_letterOf cX5_letterOf 1 (some .char) ({ frames := 0, cells := 0, slots := 0, locals := 0 } : Room) G 151 ad (ceX G ad) [.int (iI a0)] μ a μ := by
  refine mi_in (own := "UrnHeap$Line") (lv := [(0, .int (iI a0))]) (by decide) rfl rfl (Nat.le_of_ble_eq_true rfl) (fun X C E => ?_)
  unfold f_X5_letterOf at h
  refine xx_iload_n C 1 rfl 0 dX5_letterOf_0 rfl rfl ?_
  refine xx_tsw C [0, 1, 2] _ [28, 31, 34] 37 dX5_letterOf_1 (by decide) rfl h (fun h => ?_) ⟨fun h => ?_, fun h => ?_, fun h => ?_, trivial⟩
  · refine xx_bipush C 39 rfl dX5_letterOf_37 (by decide) ?_
    exact xx_zretl C E rfl rfl ⟨Nat.le_of_ble_eq_true rfl, Nat.le_of_ble_eq_true rfl⟩ dX5_letterOf_39 h
  · refine xx_bipush C 30 rfl dX5_letterOf_28 (by decide) ?_
    exact xx_zretl C E rfl rfl ⟨Nat.le_of_ble_eq_true rfl, Nat.le_of_ble_eq_true rfl⟩ dX5_letterOf_30 h
  · refine xx_bipush C 33 rfl dX5_letterOf_31 (by decide) ?_
    exact xx_zretl C E rfl rfl ⟨Nat.le_of_ble_eq_true rfl, Nat.le_of_ble_eq_true rfl⟩ dX5_letterOf_33 h
  · refine xx_bipush C 36 rfl dX5_letterOf_34 (by decide) ?_
    exact xx_zretl C E rfl rfl ⟨Nat.le_of_ble_eq_true rfl, Nat.le_of_ble_eq_true rfl⟩ dX5_letterOf_36 h

def f_X6_has (μ : mu_T) (a1 : Int) : Option Int :=
  lt_ a1 0
      (some 0)
      (nm_ (μ 140 5) (fun v6 => lt_ a1 v6
      (lt_ a1 60
      (rd_ μ 143 60 a1 (fun v26 => (if v26 < 0 then some 0 else some 1)))
      (some 0))
      (some 0)))
set_option maxHeartbeats 4000000 in
set_option maxRecDepth 100000 in
theorem c_X6_has {G : gp_} {ad : Nat → Nat} (μ : mu_T) (a1 : Int) (a : Int) (h : f_X6_has μ a1 = some a) : mi_ yX6_has cX6_has 2 (some .boolean) ({ frames := 0, cells := 0, slots := 0, locals := 0 } : Room) G 151 ad (ceX G ad) [.ref (ad 140), .int (iI a1)] μ a μ := by
  refine mi_in (own := "UrnHeap$Orders") (lv := [(0, .ref (ad 140)), (1, .int (iI a1))]) (by decide) rfl rfl (Nat.le_of_ble_eq_true rfl) (fun X C E => ?_)
  unfold f_X6_has at h
  refine xx_iload_n C 1 rfl 1 dX6_has_0 rfl rfl ?_
  refine xx_if_lt (tgt := 34) C 4 rfl dX6_has_1 (by decide) h (fun h => ?_) (fun h => ?_)
  · refine xx_iconst C 35 rfl dX6_has_34 ?_
    exact xx_zretl C E rfl rfl ⟨Nat.le_of_ble_eq_true rfl, Nat.le_of_ble_eq_true rfl⟩ dX6_has_35 h
  · refine xx_iload_n C 5 rfl 1 dX6_has_4 rfl rfl ?_
    refine xx_aload_n C 6 rfl 0 dX6_has_5 rfl rfl ?_
    refine xx_geti (fi := 5) (j := 5) C 9 rfl (by decide) (ceX_140 _ _ _) rfl in_X6 (by decide) rfl rfl w_363 dX6_has_6 h (fun v6 h => ?_)
    refine xx_icmp_ge (tgt := 34) C 12 rfl dX6_has_9 (by decide) h (fun h => ?_) (fun h => ?_)
    · refine xx_iconst C 35 rfl dX6_has_34 ?_
      exact xx_zretl C E rfl rfl ⟨Nat.le_of_ble_eq_true rfl, Nat.le_of_ble_eq_true rfl⟩ dX6_has_35 h
    · refine xx_iload_n C 13 rfl 1 dX6_has_12 rfl rfl ?_
      refine xx_aload_n C 14 rfl 0 dX6_has_13 rfl rfl ?_
      refine xx_getr (fi := 1) C 17 rfl (by decide) (ceX_140 _ _ _) rfl in_X6 (by decide) rfl rfl w_355 dX6_has_14 ?_
      refine xx_klen (nA := 60) C 18 rfl (by decide) (fun row => ceX_143 _ _ row) dX6_has_17 ?_
      refine xx_icmp_ge (tgt := 34) C 21 rfl dX6_has_18 (by decide) h (fun h => ?_) (fun h => ?_)
      · refine xx_iconst C 35 rfl dX6_has_34 ?_
        exact xx_zretl C E rfl rfl ⟨Nat.le_of_ble_eq_true rfl, Nat.le_of_ble_eq_true rfl⟩ dX6_has_35 h
      · refine xx_aload_n C 22 rfl 0 dX6_has_21 rfl rfl ?_
        refine xx_getr (fi := 1) C 25 rfl (by decide) (ceX_140 _ _ _) rfl in_X6 (by decide) rfl rfl w_355 dX6_has_22 ?_
        refine xx_iload_n C 26 rfl 1 dX6_has_25 rfl rfl ?_
        refine xx_aldk C 27 rfl (by decide) (fun row => ceX_143 _ _ row) (by decide) dX6_has_26 h (fun v26 h => ?_)
        refine xx_ifnullK (tgt := 34) C 30 rfl dX6_has_27 (by decide) h (fun h => ?_) (fun h => ?_)
        · refine xx_iconst C 35 rfl dX6_has_34 ?_
          exact xx_zretl C E rfl rfl ⟨Nat.le_of_ble_eq_true rfl, Nat.le_of_ble_eq_true rfl⟩ dX6_has_35 h
        · refine xx_iconst C 31 rfl dX6_has_30 ?_
          refine xx_goto C 35 dX6_has_31 (by decide) ?_
          exact xx_zretl C E rfl rfl ⟨Nat.le_of_ble_eq_true rfl, Nat.le_of_ble_eq_true rfl⟩ dX6_has_35 h

def f_X6_keep (μ : mu_T) (a1 : Int) : Option mu_T :=
  nm_ (μ 140 5) (fun v1 => lt_ v1 60
      (nm_ (μ 140 5) (fun v17 => gd_ (0 ≤ a1 ∧ a1 < 10) (wr_ μ 143 60 v17 a1 (fun μ21 => nm_ (μ21 140 5) (fun v27 => rd_ μ21 147 3 0 (fun v35 => wr_ μ21 144 60 v27 v35 (fun μ36 => nm_ (μ36 140 5) (fun v42 => rd_ μ36 147 3 1 (fun v50 => wr_ μ36 145 60 v42 v50 (fun μ51 => nm_ (μ51 140 5) (fun v57 => rd_ μ51 147 3 2 (fun v65 => wr_ μ51 146 60 v57 v65 (fun μ66 => nm_ (μ66 140 5) (fun v69 => wf_ μ66 140 5 (v69 + 1) (fun μ74 => some μ74)))))))))))))))
      (some μ))
set_option maxHeartbeats 4000000 in
set_option maxRecDepth 100000 in
theorem c_X6_keep {G : gp_} {ad : Nat → Nat} (μ : mu_T) (a1 : Int) (μr : mu_T) (h : f_X6_keep μ a1 = some μr) : mv_ yX6_keep cX6_keep 2 ({ frames := 0, cells := 0, slots := 0, locals := 0 } : Room) G 151 ad (ceX G ad) [.ref (ad 140), .ref (G.2.1 (100 + (a1 : Int).toNat))] μ μr := by
  refine mv_in (own := "UrnHeap$Orders") (lv := [(0, .ref (ad 140)), (1, .ref (G.2.1 (100 + (a1 : Int).toNat)))]) (by decide) rfl rfl (Nat.le_of_ble_eq_true rfl) (fun X C E => ?_)
  unfold f_X6_keep at h
  refine xx_aload_n C 1 rfl 0 dX6_keep_0 rfl rfl ?_
  refine xx_geti (fi := 5) (j := 5) C 4 rfl (by decide) (ceX_140 _ _ _) rfl in_X6 (by decide) rfl rfl w_363 dX6_keep_1 h (fun v1 h => ?_)
  refine xx_aload_n C 5 rfl 0 dX6_keep_4 rfl rfl ?_
  refine xx_getr (fi := 1) C 8 rfl (by decide) (ceX_140 _ _ _) rfl in_X6 (by decide) rfl rfl w_355 dX6_keep_5 ?_
  refine xx_klen (nA := 60) C 9 rfl (by decide) (fun row => ceX_143 _ _ row) dX6_keep_8 ?_
  refine xx_icmp_ge (tgt := 77) C 12 rfl dX6_keep_9 (by decide) h (fun h => ?_) (fun h => ?_)
  · exact xx_vret C E rfl ⟨Nat.le_of_ble_eq_true rfl, Nat.le_of_ble_eq_true rfl⟩ dX6_keep_77 h
  · refine xx_aload_n C 13 rfl 0 dX6_keep_12 rfl rfl ?_
    refine xx_getr (fi := 1) C 16 rfl (by decide) (ceX_140 _ _ _) rfl in_X6 (by decide) rfl rfl w_355 dX6_keep_13 ?_
    refine xx_aload_n C 17 rfl 0 dX6_keep_16 rfl rfl ?_
    refine xx_geti (fi := 5) (j := 5) C 20 rfl (by decide) (ceX_140 _ _ _) rfl in_X6 (by decide) rfl rfl w_363 dX6_keep_17 h (fun v17 h => ?_)
    refine xx_aload_n C 21 rfl 1 dX6_keep_20 rfl rfl ?_
    refine xx_astk C 22 rfl (by decide) (fun row => ceX_143 _ _ row) (by decide) dX6_keep_21 h (fun μ21 h => ?_)
    refine xx_aload_n C 23 rfl 0 dX6_keep_22 rfl rfl ?_
    refine xx_getr (fi := 2) C 26 rfl (by decide) (ceX_140 _ _ _) rfl in_X6 (by decide) rfl rfl w_357 dX6_keep_23 ?_
    refine xx_aload_n C 27 rfl 0 dX6_keep_26 rfl rfl ?_
    refine xx_geti (fi := 5) (j := 5) C 30 rfl (by decide) (ceX_140 _ _ _) rfl in_X6 (by decide) rfl rfl w_363 dX6_keep_27 h (fun v27 h => ?_)
    refine xx_aload_n C 31 rfl 0 dX6_keep_30 rfl rfl ?_
    refine xx_getr (fi := 6) C 34 rfl (by decide) (ceX_140 _ _ _) rfl in_X6 (by decide) rfl rfl w_365 dX6_keep_31 ?_
    refine xx_iconst C 35 rfl dX6_keep_34 ?_
    refine xx_iaload C 36 rfl (by decide) (fun row => ceX_147 _ _ row) (by decide) dX6_keep_35 h (fun v35 h => ?_)
    refine xx_iastore C 37 rfl (by decide) (fun row => ceX_144 _ _ row) (by decide) dX6_keep_36 h (fun μ36 h => ?_)
    refine xx_aload_n C 38 rfl 0 dX6_keep_37 rfl rfl ?_
    refine xx_getr (fi := 3) C 41 rfl (by decide) (ceX_140 _ _ _) rfl in_X6 (by decide) rfl rfl w_359 dX6_keep_38 ?_
    refine xx_aload_n C 42 rfl 0 dX6_keep_41 rfl rfl ?_
    refine xx_geti (fi := 5) (j := 5) C 45 rfl (by decide) (ceX_140 _ _ _) rfl in_X6 (by decide) rfl rfl w_363 dX6_keep_42 h (fun v42 h => ?_)
    refine xx_aload_n C 46 rfl 0 dX6_keep_45 rfl rfl ?_
    refine xx_getr (fi := 6) C 49 rfl (by decide) (ceX_140 _ _ _) rfl in_X6 (by decide) rfl rfl w_365 dX6_keep_46 ?_
    refine xx_iconst C 50 rfl dX6_keep_49 ?_
    refine xx_iaload C 51 rfl (by decide) (fun row => ceX_147 _ _ row) (by decide) dX6_keep_50 h (fun v50 h => ?_)
    refine xx_iastore C 52 rfl (by decide) (fun row => ceX_145 _ _ row) (by decide) dX6_keep_51 h (fun μ51 h => ?_)
    refine xx_aload_n C 53 rfl 0 dX6_keep_52 rfl rfl ?_
    refine xx_getr (fi := 4) C 56 rfl (by decide) (ceX_140 _ _ _) rfl in_X6 (by decide) rfl rfl w_361 dX6_keep_53 ?_
    refine xx_aload_n C 57 rfl 0 dX6_keep_56 rfl rfl ?_
    refine xx_geti (fi := 5) (j := 5) C 60 rfl (by decide) (ceX_140 _ _ _) rfl in_X6 (by decide) rfl rfl w_363 dX6_keep_57 h (fun v57 h => ?_)
    refine xx_aload_n C 61 rfl 0 dX6_keep_60 rfl rfl ?_
    refine xx_getr (fi := 6) C 64 rfl (by decide) (ceX_140 _ _ _) rfl in_X6 (by decide) rfl rfl w_365 dX6_keep_61 ?_
    refine xx_iconst C 65 rfl dX6_keep_64 ?_
    refine xx_iaload C 66 rfl (by decide) (fun row => ceX_147 _ _ row) (by decide) dX6_keep_65 h (fun v65 h => ?_)
    refine xx_iastore C 67 rfl (by decide) (fun row => ceX_146 _ _ row) (by decide) dX6_keep_66 h (fun μ66 h => ?_)
    refine xx_aload_n C 68 rfl 0 dX6_keep_67 rfl rfl ?_
    refine xx_dup C 69 rfl dX6_keep_68 rfl ?_
    refine xx_geti (fi := 5) (j := 5) C 72 rfl (by decide) (ceX_140 _ _ _) rfl in_X6 (by decide) rfl rfl w_363 dX6_keep_69 h (fun v69 h => ?_)
    refine xx_iconst C 73 rfl dX6_keep_72 ?_
    refine xx_iadd C 74 rfl dX6_keep_73 ?_
    refine xx_puti (fi := 5) (j := 5) C 77 rfl (by decide) (ceX_140 _ _ _) (puX_140_5 _ _ _ _) rfl in_X6 tyX6 tyX6_ok nmX6 (by decide) (Nat.le_of_ble_eq_true rfl) ⟨rfl, rfl, rfl⟩ w_363 dX6_keep_74 h (fun μ74 h => ?_)
    exact xx_vret C E rfl ⟨Nat.le_of_ble_eq_true rfl, Nat.le_of_ble_eq_true rfl⟩ dX6_keep_77 h

def f_X6_isForNumber (μ : mu_T) (a0 : Int) : Option Int :=
  eq_ a0 35
      (some 1)
      (eq_ a0 36
      (some 1)
      (eq_ a0 64
      (some 1)
      (some 0)))
set_option maxHeartbeats 4000000 in
set_option maxRecDepth 100000 in
theorem c_X6_isForNumber {G : gp_} {ad : Nat → Nat} (μ : mu_T) (a0 : Int) (a : Int) (h : f_X6_isForNumber μ a0 = some a) : mi_ yX6_isForNumber cX6_isForNumber 1 (some .boolean) ({ frames := 0, cells := 0, slots := 0, locals := 0 } : Room) G 151 ad (ceX G ad) [.int (iI a0)] μ a μ := by
  refine mi_in (own := "UrnHeap$Orders") (lv := [(0, .int (iI a0))]) (by decide) rfl rfl (Nat.le_of_ble_eq_true rfl) (fun X C E => ?_)
  unfold f_X6_isForNumber at h
  refine xx_iload_n C 1 rfl 0 dX6_isForNumber_0 rfl rfl ?_
  refine xx_bipush C 3 rfl dX6_isForNumber_1 (by decide) ?_
  refine xx_icmp_eq (tgt := 18) C 6 rfl dX6_isForNumber_3 (by decide) h (fun h => ?_) (fun h => ?_)
  · refine xx_iconst C 19 rfl dX6_isForNumber_18 ?_
    refine xx_goto C 23 dX6_isForNumber_19 (by decide) ?_
    exact xx_zretl C E rfl rfl ⟨Nat.le_of_ble_eq_true rfl, Nat.le_of_ble_eq_true rfl⟩ dX6_isForNumber_23 h
  · refine xx_iload_n C 7 rfl 0 dX6_isForNumber_6 rfl rfl ?_
    refine xx_bipush C 9 rfl dX6_isForNumber_7 (by decide) ?_
    refine xx_icmp_eq (tgt := 18) C 12 rfl dX6_isForNumber_9 (by decide) h (fun h => ?_) (fun h => ?_)
    · refine xx_iconst C 19 rfl dX6_isForNumber_18 ?_
      refine xx_goto C 23 dX6_isForNumber_19 (by decide) ?_
      exact xx_zretl C E rfl rfl ⟨Nat.le_of_ble_eq_true rfl, Nat.le_of_ble_eq_true rfl⟩ dX6_isForNumber_23 h
    · refine xx_iload_n C 13 rfl 0 dX6_isForNumber_12 rfl rfl ?_
      refine xx_bipush C 15 rfl dX6_isForNumber_13 (by decide) ?_
      refine xx_icmp_ne (tgt := 22) C 18 rfl dX6_isForNumber_15 (by decide) h (fun h => ?_) (fun h => ?_)
      · refine xx_iconst C 23 rfl dX6_isForNumber_22 ?_
        exact xx_zretl C E rfl rfl ⟨Nat.le_of_ble_eq_true rfl, Nat.le_of_ble_eq_true rfl⟩ dX6_isForNumber_23 h
      · refine xx_iconst C 19 rfl dX6_isForNumber_18 ?_
        refine xx_goto C 23 dX6_isForNumber_19 (by decide) ?_
        exact xx_zretl C E rfl rfl ⟨Nat.le_of_ble_eq_true rfl, Nat.le_of_ble_eq_true rfl⟩ dX6_isForNumber_23 h

def f_X7_bit (μ : mu_T) (a0 : Int) : Option Int :=
  bd_ (f_X11_isCell μ a0) (fun v1 => eq_ v1 0
      (some 0)
      (some (sl_ 1 a0)))
set_option maxHeartbeats 4000000 in
set_option maxRecDepth 100000 in
theorem c_X7_bit {G : gp_} {ad : Nat → Nat} (μ : mu_T) (a0 : Int) (a : Int) (h : f_X7_bit μ a0 = some a) : mi_ yX7_bit cX7_bit 1 (some .int) ({ frames := 1, cells := 0, slots := 0, locals := 20 } : Room) G 151 ad (ceX G ad) [.int (iI a0)] μ a μ := by
  refine mi_in (own := "UrnHeap$Paths") (lv := [(0, .int (iI a0))]) (by decide) rfl rfl (Nat.le_of_ble_eq_true rfl) (fun X C E => ?_)
  unfold f_X7_bit at h
  refine xx_iload_n C 1 rfl 0 dX7_bit_0 rfl rfl ?_
  refine xx_cNip (As := [.int (iI a0)]) (st := []) C 4 rfl  ca_X11_isCell cs_X11_isCell 9 rfl rfl ⟨Nat.le_of_ble_eq_true rfl, Nat.le_of_ble_eq_true rfl⟩ ⟨Nat.le_of_ble_eq_true rfl, Nat.le_of_ble_eq_true rfl⟩ (Nat.le_of_ble_eq_true rfl) dX7_bit_1 (fun v1 e9 => c_X11_isCell _ _ v1 e9) h (fun v1 h => ?_) rfl
  refine xx_if_eq (tgt := 13) C 7 rfl dX7_bit_4 (by decide) h (fun h => ?_) (fun h => ?_)
  · refine xx_iconst C 14 rfl dX7_bit_13 ?_
    exact xx_iretp C E rfl ⟨Nat.le_of_ble_eq_true rfl, Nat.le_of_ble_eq_true rfl⟩ dX7_bit_14 h
  · refine xx_iconst C 8 rfl dX7_bit_7 ?_
    refine xx_iload_n C 9 rfl 0 dX7_bit_8 rfl rfl ?_
    refine xx_ishl C 10 rfl dX7_bit_9 ?_
    refine xx_goto C 14 dX7_bit_10 (by decide) ?_
    exact xx_iretp C E rfl ⟨Nat.le_of_ble_eq_true rfl, Nat.le_of_ble_eq_true rfl⟩ dX7_bit_14 h

def f_X7_rootsByRite_L4 (a1 : Int) (μ : mu_T) : Nat → Int → Int → Option Int
  | 0, _, _ => none
  | fu4 + 1, x2_4, x3_4 => lt_ x3_4 24
      (bd_ (f_X2_hasUrn μ x3_4) (fun v15 => jn_ (φ := Int → Option Int) (fun x2_41 => nm_ (x3_4 + 1) (fun n41 => (f_X7_rootsByRite_L4 a1 μ fu4) x2_41 n41))
      (fun J41 => eq_ v15 0
      (J41 x2_4)
      (rd_ μ 3 24 x3_4 (fun v29 => eq_ v29 a1
      (bd_ (f_X7_bit μ x3_4) (fun v36 => nm_ ((or_ x2_4 v36)) (fun n40 => J41 n40)))
      (J41 x2_4))))))
      (some x2_4)
def f_X7_rootsByRite (μ : mu_T) (a1 : Int) : Option Int :=
  f_X7_rootsByRite_L4 a1 μ 20000 0 0
set_option maxHeartbeats 4000000 in
set_option maxRecDepth 100000 in
theorem c_X7_rootsByRite {G : gp_} {ad : Nat → Nat} (μ : mu_T) (a1 : Int) (a : Int) (h : f_X7_rootsByRite μ a1 = some a) : mi_ yX7_rootsByRite cX7_rootsByRite 4 (some .int) ({ frames := 2, cells := 0, slots := 0, locals := 40 } : Room) G 151 ad (ceX G ad) [.ref (ad 136), .int (iI a1)] μ a μ := by
  refine mi_in (own := "UrnHeap$Paths") (lv := [(0, .ref (ad 136)), (1, .int (iI a1))]) (by decide) rfl rfl (Nat.le_of_ble_eq_true rfl) (fun X C E => ?_)
  unfold f_X7_rootsByRite at h
  refine xx_iconst C 1 rfl dX7_rootsByRite_0 ?_
  refine xx_istore_n (lv1 := [(2, .int (iI 0)), (0, .ref (ad 136)), (1, .int (iI a1))]) C 2 rfl (by decide) dX7_rootsByRite_1 rfl rfl ?_
  refine xx_iconst C 3 rfl dX7_rootsByRite_2 ?_
  refine xx_istore_n (lv1 := [(3, .int (iI 0)), (2, .int (iI 0)), (0, .ref (ad 136)), (1, .int (iI a1))]) C 4 rfl (by decide) dX7_rootsByRite_3 rfl rfl ?_
  have L4 : ∀ (fu4 : Nat) (x2_4 : Int) (x3_4 : Int), f_X7_rootsByRite_L4 a1 μ fu4 x2_4 x3_4 = some a → wx_ G X 151 ad (ceX G ad) μ 0 0 4 [(0, .ref (ad 136)), (1, .int (iI a1)), (2, .int (iI x2_4)), (3, .int (iI x3_4))] [] := by
    intro fu4
    induction fu4 with
    | zero => intro x2_4 x3_4 h; exact nn_ h
    | succ fu4 K4 =>
      intro x2_4 x3_4 h
      rw [f_X7_rootsByRite_L4] at h
      generalize f_X7_rootsByRite_L4 a1 μ fu4 = R4 at K4 h
      refine xx_iload_n C 5 rfl 3 dX7_rootsByRite_4 rfl rfl ?_
      refine xx_bipush C 7 rfl dX7_rootsByRite_5 (by decide) ?_
      refine xx_icmp_ge (tgt := 47) C 10 rfl dX7_rootsByRite_7 (by decide) h (fun h => ?_) (fun h => ?_)
      · refine xx_iload_n C 48 rfl 2 dX7_rootsByRite_47 rfl rfl ?_
        exact xx_iretp C E rfl ⟨Nat.le_of_ble_eq_true rfl, Nat.le_of_ble_eq_true rfl⟩ dX7_rootsByRite_48 h
      · refine xx_aload_n C 11 rfl 0 dX7_rootsByRite_10 rfl rfl ?_
        refine xx_getr (fi := 0) C 14 rfl (by decide) (ceX_136 _ _ _) rfl in_X7 (by decide) rfl rfl w_278 dX7_rootsByRite_11 ?_
        refine xx_iload_n C 15 rfl 3 dX7_rootsByRite_14 rfl rfl ?_
        refine xx_cVip (As := [.int (iI x3_4)]) (st := []) (o := 0) C 18 rfl (by decide) (ceX_0 _ _ _) rfl rfl ca_X2_hasUrn cv_X2_hasUrn w_683 rfl ⟨Nat.le_of_ble_eq_true rfl, Nat.le_of_ble_eq_true rfl⟩ ⟨Nat.le_of_ble_eq_true rfl, Nat.le_of_ble_eq_true rfl⟩ (Nat.le_of_ble_eq_true rfl) dX7_rootsByRite_15 (fun v15 e9 => c_X2_hasUrn _ _ v15 e9) h (fun v15 h => ?_) rfl
        refine jn_r (fun J => ∀ (x2_41 : Int), J x2_41 = some a → wx_ G X 151 ad (ceX G ad) μ 0 0 41 [(0, .ref (ad 136)), (1, .int (iI a1)), (2, .int (iI x2_41)), (3, .int (iI x3_4))] []) h (fun x2_41 h => ?_) (fun J41 K41 h => ?_)
        · refine xx_iincn C 44 rfl 3 (by decide) dX7_rootsByRite_41 rfl h (fun n41 h => ?_)
          refine xx_lv (lv1 := [(3, .int (iI n41)), (0, .ref (ad 136)), (1, .int (iI a1)), (2, .int (iI x2_41))]) rfl ?_
          refine xx_goto C 4 dX7_rootsByRite_44 (by decide) ?_
          refine xx_sub [1, 2, 3, 0] rfl ?_
          exact K4 x2_41 n41 h
        · refine xx_if_eq (tgt := 41) C 21 rfl dX7_rootsByRite_18 (by decide) h (fun h => ?_) (fun h => ?_)
          · exact K41 x2_4 h
          · refine xx_aload_n C 22 rfl 0 dX7_rootsByRite_21 rfl rfl ?_
            refine xx_getr (fi := 0) C 25 rfl (by decide) (ceX_136 _ _ _) rfl in_X7 (by decide) rfl rfl w_278 dX7_rootsByRite_22 ?_
            refine xx_getr (fi := 2) C 28 rfl (by decide) (ceX_0 _ _ _) rfl in_X2 (by decide) rfl rfl w_148 dX7_rootsByRite_25 ?_
            refine xx_iload_n C 29 rfl 3 dX7_rootsByRite_28 rfl rfl ?_
            refine xx_iaload C 30 rfl (by decide) (fun row => ceX_3 _ _ row) (by decide) dX7_rootsByRite_29 h (fun v29 h => ?_)
            refine xx_iload_n C 31 rfl 1 dX7_rootsByRite_30 rfl rfl ?_
            refine xx_icmp_ne (tgt := 41) C 34 rfl dX7_rootsByRite_31 (by decide) h (fun h => ?_) (fun h => ?_)
            · exact K41 x2_4 h
            · refine xx_iload_n C 35 rfl 2 dX7_rootsByRite_34 rfl rfl ?_
              refine xx_iload_n C 36 rfl 3 dX7_rootsByRite_35 rfl rfl ?_
              refine xx_cSip (As := [.int (iI x3_4)]) (st := [.int (iI x2_4)]) C 39 rfl  ca_X7_bit cs_X7_bit w_684 rfl ⟨Nat.le_of_ble_eq_true rfl, Nat.le_of_ble_eq_true rfl⟩ ⟨Nat.le_of_ble_eq_true rfl, Nat.le_of_ble_eq_true rfl⟩ (Nat.le_of_ble_eq_true rfl) dX7_rootsByRite_36 (fun v36 e9 => c_X7_bit _ _ v36 e9) h (fun v36 h => ?_) rfl
              refine xx_ior C 40 rfl dX7_rootsByRite_39 ?_
              refine xx_nm C h (fun n40 h => ?_)
              refine xx_istore_n (lv1 := [(2, .int (iI n40)), (0, .ref (ad 136)), (1, .int (iI a1)), (3, .int (iI x3_4))]) C 41 rfl (by decide) dX7_rootsByRite_40 rfl rfl ?_
              refine xx_sub [1, 2, 0, 3] rfl ?_
              exact K41 n40 h
  refine xx_sub [2, 3, 1, 0] rfl ?_
  exact L4 _ _ _ h

def f_X7_roots_L8 (a1 : Int) (μ : mu_T) : Nat → Int → Int → Option Int
  | 0, _, _ => none
  | fu8 + 1, x2_8, x3_8 => lt_ x3_8 6
      (jn_ (φ := Int → Option Int) (fun x2_34 => nm_ (x3_8 + 1) (fun n34 => (f_X7_roots_L8 a1 μ fu8) x2_34 n34))
      (fun J34 => eq_ x3_8 a1
      (J34 x2_8)
      (rd_ μ 6 6 x3_8 (fun v28 => bd_ (f_X7_bit μ v28) (fun v29 => nm_ ((or_ x2_8 v29)) (fun n33 => J34 n33))))))
      (some x2_8)
def f_X7_roots (μ : mu_T) (a1 : Int) : Option Int :=
  bd_ (f_X7_rootsByRite μ 2) (fun v2 => f_X7_roots_L8 a1 μ 20000 v2 0)
set_option maxHeartbeats 4000000 in
set_option maxRecDepth 100000 in
theorem c_X7_roots {G : gp_} {ad : Nat → Nat} (μ : mu_T) (a1 : Int) (a : Int) (h : f_X7_roots μ a1 = some a) : mi_ yX7_roots cX7_roots 4 (some .int) ({ frames := 3, cells := 0, slots := 0, locals := 63 } : Room) G 151 ad (ceX G ad) [.ref (ad 136), .int (iI a1)] μ a μ := by
  refine mi_in (own := "UrnHeap$Paths") (lv := [(0, .ref (ad 136)), (1, .int (iI a1))]) (by decide) rfl rfl (Nat.le_of_ble_eq_true rfl) (fun X C E => ?_)
  unfold f_X7_roots at h
  refine xx_aload_n C 1 rfl 0 dX7_roots_0 rfl rfl ?_
  refine xx_iconst C 2 rfl dX7_roots_1 ?_
  refine xx_cVip (As := [.int (iI 2)]) (st := []) (o := 136) C 5 rfl (by decide) (ceX_136 _ _ _) rfl rfl ca_X7_rootsByRite cv_X7_rootsByRite w_679 rfl ⟨Nat.le_of_ble_eq_true rfl, Nat.le_of_ble_eq_true rfl⟩ ⟨Nat.le_of_ble_eq_true rfl, Nat.le_of_ble_eq_true rfl⟩ (Nat.le_of_ble_eq_true rfl) dX7_roots_2 (fun v2 e9 => c_X7_rootsByRite _ _ v2 e9) h (fun v2 h => ?_) rfl
  refine xx_istore_n (lv1 := [(2, .int (iI v2)), (0, .ref (ad 136)), (1, .int (iI a1))]) C 6 rfl (by decide) dX7_roots_5 rfl rfl ?_
  refine xx_iconst C 7 rfl dX7_roots_6 ?_
  refine xx_istore_n (lv1 := [(3, .int (iI 0)), (2, .int (iI v2)), (0, .ref (ad 136)), (1, .int (iI a1))]) C 8 rfl (by decide) dX7_roots_7 rfl rfl ?_
  have L8 : ∀ (fu8 : Nat) (x2_8 : Int) (x3_8 : Int), f_X7_roots_L8 a1 μ fu8 x2_8 x3_8 = some a → wx_ G X 151 ad (ceX G ad) μ 0 0 8 [(0, .ref (ad 136)), (1, .int (iI a1)), (2, .int (iI x2_8)), (3, .int (iI x3_8))] [] := by
    intro fu8
    induction fu8 with
    | zero => intro x2_8 x3_8 h; exact nn_ h
    | succ fu8 K8 =>
      intro x2_8 x3_8 h
      rw [f_X7_roots_L8] at h
      generalize f_X7_roots_L8 a1 μ fu8 = R8 at K8 h
      refine xx_iload_n C 9 rfl 3 dX7_roots_8 rfl rfl ?_
      refine xx_bipush C 11 rfl dX7_roots_9 (by decide) ?_
      refine xx_icmp_ge (tgt := 40) C 14 rfl dX7_roots_11 (by decide) h (fun h => ?_) (fun h => ?_)
      · refine xx_iload_n C 41 rfl 2 dX7_roots_40 rfl rfl ?_
        exact xx_iretp C E rfl ⟨Nat.le_of_ble_eq_true rfl, Nat.le_of_ble_eq_true rfl⟩ dX7_roots_41 h
      · refine xx_iload_n C 15 rfl 3 dX7_roots_14 rfl rfl ?_
        refine xx_iload_n C 16 rfl 1 dX7_roots_15 rfl rfl ?_
        refine jn_r (fun J => ∀ (x2_34 : Int), J x2_34 = some a → wx_ G X 151 ad (ceX G ad) μ 0 0 34 [(0, .ref (ad 136)), (1, .int (iI a1)), (2, .int (iI x2_34)), (3, .int (iI x3_8))] []) h (fun x2_34 h => ?_) (fun J34 K34 h => ?_)
        · refine xx_iincn C 37 rfl 3 (by decide) dX7_roots_34 rfl h (fun n34 h => ?_)
          refine xx_lv (lv1 := [(3, .int (iI n34)), (0, .ref (ad 136)), (1, .int (iI a1)), (2, .int (iI x2_34))]) rfl ?_
          refine xx_goto C 8 dX7_roots_37 (by decide) ?_
          refine xx_sub [1, 2, 3, 0] rfl ?_
          exact K8 x2_34 n34 h
        · refine xx_icmp_eq (tgt := 34) C 19 rfl dX7_roots_16 (by decide) h (fun h => ?_) (fun h => ?_)
          · exact K34 x2_8 h
          · refine xx_iload_n C 20 rfl 2 dX7_roots_19 rfl rfl ?_
            refine xx_aload_n C 21 rfl 0 dX7_roots_20 rfl rfl ?_
            refine xx_getr (fi := 0) C 24 rfl (by decide) (ceX_136 _ _ _) rfl in_X7 (by decide) rfl rfl w_278 dX7_roots_21 ?_
            refine xx_getr (fi := 5) C 27 rfl (by decide) (ceX_0 _ _ _) rfl in_X2 (by decide) rfl rfl w_158 dX7_roots_24 ?_
            refine xx_iload_n C 28 rfl 3 dX7_roots_27 rfl rfl ?_
            refine xx_iaload C 29 rfl (by decide) (fun row => ceX_6 _ _ row) (by decide) dX7_roots_28 h (fun v28 h => ?_)
            refine xx_cSip (As := [.int (iI v28)]) (st := [.int (iI x2_8)]) C 32 rfl  ca_X7_bit cs_X7_bit w_684 rfl ⟨Nat.le_of_ble_eq_true rfl, Nat.le_of_ble_eq_true rfl⟩ ⟨Nat.le_of_ble_eq_true rfl, Nat.le_of_ble_eq_true rfl⟩ (Nat.le_of_ble_eq_true rfl) dX7_roots_29 (fun v29 e9 => c_X7_bit _ _ v29 e9) h (fun v29 h => ?_) rfl
            refine xx_ior C 33 rfl dX7_roots_32 ?_
            refine xx_nm C h (fun n33 h => ?_)
            refine xx_istore_n (lv1 := [(2, .int (iI n33)), (0, .ref (ad 136)), (1, .int (iI a1)), (3, .int (iI x3_8))]) C 34 rfl (by decide) dX7_roots_33 rfl rfl ?_
            refine xx_sub [1, 2, 0, 3] rfl ?_
            exact K34 n33 h
  refine xx_sub [2, 3, 1, 0] rfl ?_
  exact L8 _ _ _ h

def f_X7_isIn (μ : mu_T) (a0 : Int) (a1 : Int) : Option Int :=
  bd_ (f_X7_bit μ a1) (fun v2 => eq_ (an_ a0 v2) 0
      (some 0)
      (some 1))
set_option maxHeartbeats 4000000 in
set_option maxRecDepth 100000 in
theorem c_X7_isIn {G : gp_} {ad : Nat → Nat} (μ : mu_T) (a0 : Int) (a1 : Int) (a : Int) (h : f_X7_isIn μ a0 a1 = some a) : mi_ yX7_isIn cX7_isIn 2 (some .boolean) ({ frames := 2, cells := 0, slots := 0, locals := 40 } : Room) G 151 ad (ceX G ad) [.int (iI a0), .int (iI a1)] μ a μ := by
  refine mi_in (own := "UrnHeap$Paths") (lv := [(0, .int (iI a0)), (1, .int (iI a1))]) (by decide) rfl rfl (Nat.le_of_ble_eq_true rfl) (fun X C E => ?_)
  unfold f_X7_isIn at h
  refine xx_iload_n C 1 rfl 0 dX7_isIn_0 rfl rfl ?_
  refine xx_iload_n C 2 rfl 1 dX7_isIn_1 rfl rfl ?_
  refine xx_cSip (As := [.int (iI a1)]) (st := [.int (iI a0)]) C 5 rfl  ca_X7_bit cs_X7_bit w_684 rfl ⟨Nat.le_of_ble_eq_true rfl, Nat.le_of_ble_eq_true rfl⟩ ⟨Nat.le_of_ble_eq_true rfl, Nat.le_of_ble_eq_true rfl⟩ (Nat.le_of_ble_eq_true rfl) dX7_isIn_2 (fun v2 e9 => c_X7_bit _ _ v2 e9) h (fun v2 h => ?_) rfl
  refine xx_iand C 6 rfl dX7_isIn_5 ?_
  refine xx_if_eq (tgt := 13) C 9 rfl dX7_isIn_6 (by decide) h (fun h => ?_) (fun h => ?_)
  · refine xx_iconst C 14 rfl dX7_isIn_13 ?_
    exact xx_zretl C E rfl rfl ⟨Nat.le_of_ble_eq_true rfl, Nat.le_of_ble_eq_true rfl⟩ dX7_isIn_14 h
  · refine xx_iconst C 10 rfl dX7_isIn_9 ?_
    refine xx_goto C 14 dX7_isIn_10 (by decide) ?_
    exact xx_zretl C E rfl rfl ⟨Nat.le_of_ble_eq_true rfl, Nat.le_of_ble_eq_true rfl⟩ dX7_isIn_14 h

def f_X7_targets_L4 (a1 : Int) (μ : mu_T) : Nat → Int → Int → Option Int
  | 0, _, _ => none
  | fu4 + 1, x2_4, x3_4 => lt_ x3_4 4
      (bd_ (f_X2_target μ a1 x3_4) (fun v16 => bd_ (f_X7_bit μ v16) (fun v19 => nm_ ((or_ x2_4 v19)) (fun n23 => nm_ (x3_4 + 1) (fun n24 => (f_X7_targets_L4 a1 μ fu4) n23 n24)))))
      (some x2_4)
def f_X7_targets (μ : mu_T) (a1 : Int) : Option Int :=
  f_X7_targets_L4 a1 μ 20000 0 0
set_option maxHeartbeats 4000000 in
set_option maxRecDepth 100000 in
theorem c_X7_targets {G : gp_} {ad : Nat → Nat} (μ : mu_T) (a1 : Int) (a : Int) (h : f_X7_targets μ a1 = some a) : mi_ yX7_targets cX7_targets 4 (some .int) ({ frames := 2, cells := 0, slots := 0, locals := 42 } : Room) G 151 ad (ceX G ad) [.ref (ad 136), .int (iI a1)] μ a μ := by
  refine mi_in (own := "UrnHeap$Paths") (lv := [(0, .ref (ad 136)), (1, .int (iI a1))]) (by decide) rfl rfl (Nat.le_of_ble_eq_true rfl) (fun X C E => ?_)
  unfold f_X7_targets at h
  refine xx_iconst C 1 rfl dX7_targets_0 ?_
  refine xx_istore_n (lv1 := [(2, .int (iI 0)), (0, .ref (ad 136)), (1, .int (iI a1))]) C 2 rfl (by decide) dX7_targets_1 rfl rfl ?_
  refine xx_iconst C 3 rfl dX7_targets_2 ?_
  refine xx_istore_n (lv1 := [(3, .int (iI 0)), (2, .int (iI 0)), (0, .ref (ad 136)), (1, .int (iI a1))]) C 4 rfl (by decide) dX7_targets_3 rfl rfl ?_
  have L4 : ∀ (fu4 : Nat) (x2_4 : Int) (x3_4 : Int), f_X7_targets_L4 a1 μ fu4 x2_4 x3_4 = some a → wx_ G X 151 ad (ceX G ad) μ 0 0 4 [(0, .ref (ad 136)), (1, .int (iI a1)), (2, .int (iI x2_4)), (3, .int (iI x3_4))] [] := by
    intro fu4
    induction fu4 with
    | zero => intro x2_4 x3_4 h; exact nn_ h
    | succ fu4 K4 =>
      intro x2_4 x3_4 h
      rw [f_X7_targets_L4] at h
      generalize f_X7_targets_L4 a1 μ fu4 = R4 at K4 h
      refine xx_iload_n C 5 rfl 3 dX7_targets_4 rfl rfl ?_
      refine xx_iconst C 6 rfl dX7_targets_5 ?_
      refine xx_icmp_ge (tgt := 30) C 9 rfl dX7_targets_6 (by decide) h (fun h => ?_) (fun h => ?_)
      · refine xx_iload_n C 31 rfl 2 dX7_targets_30 rfl rfl ?_
        exact xx_iretp C E rfl ⟨Nat.le_of_ble_eq_true rfl, Nat.le_of_ble_eq_true rfl⟩ dX7_targets_31 h
      · refine xx_iload_n C 10 rfl 2 dX7_targets_9 rfl rfl ?_
        refine xx_aload_n C 11 rfl 0 dX7_targets_10 rfl rfl ?_
        refine xx_getr (fi := 0) C 14 rfl (by decide) (ceX_136 _ _ _) rfl in_X7 (by decide) rfl rfl w_278 dX7_targets_11 ?_
        refine xx_iload_n C 15 rfl 1 dX7_targets_14 rfl rfl ?_
        refine xx_iload_n C 16 rfl 3 dX7_targets_15 rfl rfl ?_
        refine xx_cVip (As := [.int (iI a1), .int (iI x3_4)]) (st := [.int (iI x2_4)]) (o := 0) C 19 rfl (by decide) (ceX_0 _ _ _) rfl rfl ca_X2_target cv_X2_target w_703 rfl ⟨Nat.le_of_ble_eq_true rfl, Nat.le_of_ble_eq_true rfl⟩ ⟨Nat.le_of_ble_eq_true rfl, Nat.le_of_ble_eq_true rfl⟩ (Nat.le_of_ble_eq_true rfl) dX7_targets_16 (fun v16 e9 => c_X2_target _ _ _ v16 e9) h (fun v16 h => ?_) rfl
        refine xx_cSip (As := [.int (iI v16)]) (st := [.int (iI x2_4)]) C 22 rfl  ca_X7_bit cs_X7_bit w_684 rfl ⟨Nat.le_of_ble_eq_true rfl, Nat.le_of_ble_eq_true rfl⟩ ⟨Nat.le_of_ble_eq_true rfl, Nat.le_of_ble_eq_true rfl⟩ (Nat.le_of_ble_eq_true rfl) dX7_targets_19 (fun v19 e9 => c_X7_bit _ _ v19 e9) h (fun v19 h => ?_) rfl
        refine xx_ior C 23 rfl dX7_targets_22 ?_
        refine xx_nm C h (fun n23 h => ?_)
        refine xx_istore_n (lv1 := [(2, .int (iI n23)), (0, .ref (ad 136)), (1, .int (iI a1)), (3, .int (iI x3_4))]) C 24 rfl (by decide) dX7_targets_23 rfl rfl ?_
        refine xx_iincn C 27 rfl 3 (by decide) dX7_targets_24 rfl h (fun n24 h => ?_)
        refine xx_lv (lv1 := [(3, .int (iI n24)), (2, .int (iI n23)), (0, .ref (ad 136)), (1, .int (iI a1))]) rfl ?_
        refine xx_goto C 4 dX7_targets_27 (by decide) ?_
        refine xx_sub [2, 3, 1, 0] rfl ?_
        exact K4 n23 n24 h
  refine xx_sub [2, 3, 1, 0] rfl ?_
  exact L4 _ _ _ h

def f_X7_targetsOfAll_L4 (a1 : Int) (μ : mu_T) : Nat → Int → Int → Option Int
  | 0, _, _ => none
  | fu4 + 1, x2_4, x3_4 => lt_ x3_4 24
      (bd_ (f_X7_isIn μ a1 x3_4) (fun v12 => jn_ (φ := Int → Option Int) (fun x2_26 => nm_ (x3_4 + 1) (fun n26 => (f_X7_targetsOfAll_L4 a1 μ fu4) x2_26 n26))
      (fun J26 => eq_ v12 0
      (J26 x2_4)
      (bd_ (f_X7_targets μ x3_4) (fun v21 => nm_ ((or_ x2_4 v21)) (fun n25 => J26 n25))))))
      (some x2_4)
def f_X7_targetsOfAll (μ : mu_T) (a1 : Int) : Option Int :=
  f_X7_targetsOfAll_L4 a1 μ 20000 0 0
set_option maxHeartbeats 4000000 in
set_option maxRecDepth 100000 in
theorem c_X7_targetsOfAll {G : gp_} {ad : Nat → Nat} (μ : mu_T) (a1 : Int) (a : Int) (h : f_X7_targetsOfAll μ a1 = some a) : mi_ yX7_targetsOfAll cX7_targetsOfAll 4 (some .int) ({ frames := 3, cells := 0, slots := 0, locals := 65 } : Room) G 151 ad (ceX G ad) [.ref (ad 136), .int (iI a1)] μ a μ := by
  refine mi_in (own := "UrnHeap$Paths") (lv := [(0, .ref (ad 136)), (1, .int (iI a1))]) (by decide) rfl rfl (Nat.le_of_ble_eq_true rfl) (fun X C E => ?_)
  unfold f_X7_targetsOfAll at h
  refine xx_iconst C 1 rfl dX7_targetsOfAll_0 ?_
  refine xx_istore_n (lv1 := [(2, .int (iI 0)), (0, .ref (ad 136)), (1, .int (iI a1))]) C 2 rfl (by decide) dX7_targetsOfAll_1 rfl rfl ?_
  refine xx_iconst C 3 rfl dX7_targetsOfAll_2 ?_
  refine xx_istore_n (lv1 := [(3, .int (iI 0)), (2, .int (iI 0)), (0, .ref (ad 136)), (1, .int (iI a1))]) C 4 rfl (by decide) dX7_targetsOfAll_3 rfl rfl ?_
  have L4 : ∀ (fu4 : Nat) (x2_4 : Int) (x3_4 : Int), f_X7_targetsOfAll_L4 a1 μ fu4 x2_4 x3_4 = some a → wx_ G X 151 ad (ceX G ad) μ 0 0 4 [(0, .ref (ad 136)), (1, .int (iI a1)), (2, .int (iI x2_4)), (3, .int (iI x3_4))] [] := by
    intro fu4
    induction fu4 with
    | zero => intro x2_4 x3_4 h; exact nn_ h
    | succ fu4 K4 =>
      intro x2_4 x3_4 h
      rw [f_X7_targetsOfAll_L4] at h
      generalize f_X7_targetsOfAll_L4 a1 μ fu4 = R4 at K4 h
      refine xx_iload_n C 5 rfl 3 dX7_targetsOfAll_4 rfl rfl ?_
      refine xx_bipush C 7 rfl dX7_targetsOfAll_5 (by decide) ?_
      refine xx_icmp_ge (tgt := 32) C 10 rfl dX7_targetsOfAll_7 (by decide) h (fun h => ?_) (fun h => ?_)
      · refine xx_iload_n C 33 rfl 2 dX7_targetsOfAll_32 rfl rfl ?_
        exact xx_iretp C E rfl ⟨Nat.le_of_ble_eq_true rfl, Nat.le_of_ble_eq_true rfl⟩ dX7_targetsOfAll_33 h
      · refine xx_iload_n C 11 rfl 1 dX7_targetsOfAll_10 rfl rfl ?_
        refine xx_iload_n C 12 rfl 3 dX7_targetsOfAll_11 rfl rfl ?_
        refine xx_cSip (As := [.int (iI a1), .int (iI x3_4)]) (st := []) C 15 rfl  ca_X7_isIn cs_X7_isIn w_696 rfl ⟨Nat.le_of_ble_eq_true rfl, Nat.le_of_ble_eq_true rfl⟩ ⟨Nat.le_of_ble_eq_true rfl, Nat.le_of_ble_eq_true rfl⟩ (Nat.le_of_ble_eq_true rfl) dX7_targetsOfAll_12 (fun v12 e9 => c_X7_isIn _ _ _ v12 e9) h (fun v12 h => ?_) rfl
        refine jn_r (fun J => ∀ (x2_26 : Int), J x2_26 = some a → wx_ G X 151 ad (ceX G ad) μ 0 0 26 [(0, .ref (ad 136)), (1, .int (iI a1)), (2, .int (iI x2_26)), (3, .int (iI x3_4))] []) h (fun x2_26 h => ?_) (fun J26 K26 h => ?_)
        · refine xx_iincn C 29 rfl 3 (by decide) dX7_targetsOfAll_26 rfl h (fun n26 h => ?_)
          refine xx_lv (lv1 := [(3, .int (iI n26)), (0, .ref (ad 136)), (1, .int (iI a1)), (2, .int (iI x2_26))]) rfl ?_
          refine xx_goto C 4 dX7_targetsOfAll_29 (by decide) ?_
          refine xx_sub [1, 2, 3, 0] rfl ?_
          exact K4 x2_26 n26 h
        · refine xx_if_eq (tgt := 26) C 18 rfl dX7_targetsOfAll_15 (by decide) h (fun h => ?_) (fun h => ?_)
          · exact K26 x2_4 h
          · refine xx_iload_n C 19 rfl 2 dX7_targetsOfAll_18 rfl rfl ?_
            refine xx_aload_n C 20 rfl 0 dX7_targetsOfAll_19 rfl rfl ?_
            refine xx_iload_n C 21 rfl 3 dX7_targetsOfAll_20 rfl rfl ?_
            refine xx_cVip (As := [.int (iI x3_4)]) (st := [.int (iI x2_4)]) (o := 136) C 24 rfl (by decide) (ceX_136 _ _ _) rfl rfl ca_X7_targets cv_X7_targets w_699 rfl ⟨Nat.le_of_ble_eq_true rfl, Nat.le_of_ble_eq_true rfl⟩ ⟨Nat.le_of_ble_eq_true rfl, Nat.le_of_ble_eq_true rfl⟩ (Nat.le_of_ble_eq_true rfl) dX7_targetsOfAll_21 (fun v21 e9 => c_X7_targets _ _ v21 e9) h (fun v21 h => ?_) rfl
            refine xx_ior C 25 rfl dX7_targetsOfAll_24 ?_
            refine xx_nm C h (fun n25 h => ?_)
            refine xx_istore_n (lv1 := [(2, .int (iI n25)), (0, .ref (ad 136)), (1, .int (iI a1)), (3, .int (iI x3_4))]) C 26 rfl (by decide) dX7_targetsOfAll_25 rfl rfl ?_
            refine xx_sub [1, 2, 0, 3] rfl ?_
            exact K26 n25 h
  refine xx_sub [2, 3, 1, 0] rfl ?_
  exact L4 _ _ _ h

def f_X7_reachFrom_L7 (μ : mu_T) : Nat → Int → Int → Int → Option Int
  | 0, _, _, _ => none
  | fu7 + 1, x2_7, x3_7, x4_7 => lt_ x4_7 24
      (eq_ x3_7 0
      (some x2_7)
      (bd_ (f_X7_targetsOfAll μ x3_7) (fun v20 => nm_ ((an_ v20 (xo_ x2_7 (-1)))) (fun n27 => nm_ ((or_ x2_7 n27)) (fun n31 => nm_ (x4_7 + 1) (fun n32 => (f_X7_reachFrom_L7 μ fu7) n31 n27 n32))))))
      (some x2_7)
def f_X7_reachFrom (μ : mu_T) (a1 : Int) : Option Int :=
  f_X7_reachFrom_L7 μ 20000 a1 a1 0
set_option maxHeartbeats 4000000 in
set_option maxRecDepth 100000 in
theorem c_X7_reachFrom {G : gp_} {ad : Nat → Nat} (μ : mu_T) (a1 : Int) (a : Int) (h : f_X7_reachFrom μ a1 = some a) : mi_ yX7_reachFrom cX7_reachFrom 5 (some .int) ({ frames := 4, cells := 0, slots := 0, locals := 88 } : Room) G 151 ad (ceX G ad) [.ref (ad 136), .int (iI a1)] μ a μ := by
  refine mi_in (own := "UrnHeap$Paths") (lv := [(0, .ref (ad 136)), (1, .int (iI a1))]) (by decide) rfl rfl (Nat.le_of_ble_eq_true rfl) (fun X C E => ?_)
  unfold f_X7_reachFrom at h
  refine xx_iload_n C 1 rfl 1 dX7_reachFrom_0 rfl rfl ?_
  refine xx_istore_n (lv1 := [(2, .int (iI a1)), (0, .ref (ad 136)), (1, .int (iI a1))]) C 2 rfl (by decide) dX7_reachFrom_1 rfl rfl ?_
  refine xx_iload_n C 3 rfl 2 dX7_reachFrom_2 rfl rfl ?_
  refine xx_istore_n (lv1 := [(3, .int (iI a1)), (2, .int (iI a1)), (0, .ref (ad 136)), (1, .int (iI a1))]) C 4 rfl (by decide) dX7_reachFrom_3 rfl rfl ?_
  refine xx_iconst C 5 rfl dX7_reachFrom_4 ?_
  refine xx_istore (lv1 := [(4, .int (iI 0)), (3, .int (iI a1)), (2, .int (iI a1)), (0, .ref (ad 136)), (1, .int (iI a1))]) C 7 rfl (by decide) dX7_reachFrom_5 rfl ?_
  have L7 : ∀ (fu7 : Nat) (x2_7 : Int) (x3_7 : Int) (x4_7 : Int), f_X7_reachFrom_L7 μ fu7 x2_7 x3_7 x4_7 = some a → wx_ G X 151 ad (ceX G ad) μ 0 0 7 [(0, .ref (ad 136)), (2, .int (iI x2_7)), (3, .int (iI x3_7)), (4, .int (iI x4_7))] [] := by
    intro fu7
    induction fu7 with
    | zero => intro x2_7 x3_7 x4_7 h; exact nn_ h
    | succ fu7 K7 =>
      intro x2_7 x3_7 x4_7 h
      rw [f_X7_reachFrom_L7] at h
      generalize f_X7_reachFrom_L7 μ fu7 = R7 at K7 h
      refine xx_iload C 9 rfl 3 dX7_reachFrom_7 rfl ?_
      refine xx_bipush C 11 rfl dX7_reachFrom_9 (by decide) ?_
      refine xx_icmp_ge (tgt := 38) C 14 rfl dX7_reachFrom_11 (by decide) h (fun h => ?_) (fun h => ?_)
      · refine xx_iload_n C 39 rfl 1 dX7_reachFrom_38 rfl rfl ?_
        exact xx_iretp C E rfl ⟨Nat.le_of_ble_eq_true rfl, Nat.le_of_ble_eq_true rfl⟩ dX7_reachFrom_39 h
      · refine xx_iload_n C 15 rfl 2 dX7_reachFrom_14 rfl rfl ?_
        refine xx_if_eq (tgt := 38) C 18 rfl dX7_reachFrom_15 (by decide) h (fun h => ?_) (fun h => ?_)
        · refine xx_iload_n C 39 rfl 1 dX7_reachFrom_38 rfl rfl ?_
          exact xx_iretp C E rfl ⟨Nat.le_of_ble_eq_true rfl, Nat.le_of_ble_eq_true rfl⟩ dX7_reachFrom_39 h
        · refine xx_aload_n C 19 rfl 0 dX7_reachFrom_18 rfl rfl ?_
          refine xx_iload_n C 20 rfl 2 dX7_reachFrom_19 rfl rfl ?_
          refine xx_cVip (As := [.int (iI x3_7)]) (st := []) (o := 136) C 23 rfl (by decide) (ceX_136 _ _ _) rfl rfl ca_X7_targetsOfAll cv_X7_targetsOfAll w_692 rfl ⟨Nat.le_of_ble_eq_true rfl, Nat.le_of_ble_eq_true rfl⟩ ⟨Nat.le_of_ble_eq_true rfl, Nat.le_of_ble_eq_true rfl⟩ (Nat.le_of_ble_eq_true rfl) dX7_reachFrom_20 (fun v20 e9 => c_X7_targetsOfAll _ _ v20 e9) h (fun v20 h => ?_) rfl
          refine xx_iload_n C 24 rfl 1 dX7_reachFrom_23 rfl rfl ?_
          refine xx_iconst C 25 rfl dX7_reachFrom_24 ?_
          refine xx_ixor C 26 rfl dX7_reachFrom_25 ?_
          refine xx_iand C 27 rfl dX7_reachFrom_26 ?_
          refine xx_nm C h (fun n27 h => ?_)
          refine xx_istore_n (lv1 := [(3, .int (iI n27)), (0, .ref (ad 136)), (2, .int (iI x2_7)), (4, .int (iI x4_7))]) C 28 rfl (by decide) dX7_reachFrom_27 rfl rfl ?_
          refine xx_iload_n C 29 rfl 2 dX7_reachFrom_28 rfl rfl ?_
          refine xx_iload_n C 30 rfl 0 dX7_reachFrom_29 rfl rfl ?_
          refine xx_ior C 31 rfl dX7_reachFrom_30 ?_
          refine xx_nm C h (fun n31 h => ?_)
          refine xx_istore_n (lv1 := [(2, .int (iI n31)), (3, .int (iI n27)), (0, .ref (ad 136)), (4, .int (iI x4_7))]) C 32 rfl (by decide) dX7_reachFrom_31 rfl rfl ?_
          refine xx_iincn C 35 rfl 3 (by decide) dX7_reachFrom_32 rfl h (fun n32 h => ?_)
          refine xx_lv (lv1 := [(4, .int (iI n32)), (2, .int (iI n31)), (3, .int (iI n27)), (0, .ref (ad 136))]) rfl ?_
          refine xx_goto C 7 dX7_reachFrom_35 (by decide) ?_
          refine xx_sub [3, 1, 2, 0] rfl ?_
          exact K7 n31 n27 n32 h
  refine xx_sub [3, 2, 1, 0] rfl ?_
  exact L7 _ _ _ _ h

def f_X7_reach (μ : mu_T)  : Option Int :=
  bd_ (f_X7_roots μ (-15)) (fun v4 => bd_ (f_X7_reachFrom μ v4) (fun v7 => some v7))
set_option maxHeartbeats 4000000 in
set_option maxRecDepth 100000 in
theorem c_X7_reach {G : gp_} {ad : Nat → Nat} (μ : mu_T)  (a : Int) (h : f_X7_reach μ  = some a) : mi_ yX7_reach cX7_reach 1 (some .int) ({ frames := 5, cells := 0, slots := 0, locals := 112 } : Room) G 151 ad (ceX G ad) [.ref (ad 136)] μ a μ := by
  refine mi_in (own := "UrnHeap$Paths") (lv := [(0, .ref (ad 136))]) (by decide) rfl rfl (Nat.le_of_ble_eq_true rfl) (fun X C E => ?_)
  unfold f_X7_reach at h
  refine xx_aload_n C 1 rfl 0 dX7_reach_0 rfl rfl ?_
  refine xx_aload_n C 2 rfl 0 dX7_reach_1 rfl rfl ?_
  refine xx_bipush C 4 rfl dX7_reach_2 (by decide) ?_
  refine xx_cVip (As := [.int (iI (-15))]) (st := [.ref (ad 136)]) (o := 136) C 7 rfl (by decide) (ceX_136 _ _ _) rfl rfl ca_X7_roots cv_X7_roots w_675 rfl ⟨Nat.le_of_ble_eq_true rfl, Nat.le_of_ble_eq_true rfl⟩ ⟨Nat.le_of_ble_eq_true rfl, Nat.le_of_ble_eq_true rfl⟩ (Nat.le_of_ble_eq_true rfl) dX7_reach_4 (fun v4 e9 => c_X7_roots _ _ v4 e9) h (fun v4 h => ?_) rfl
  refine xx_cVip (As := [.int (iI v4)]) (st := []) (o := 136) C 10 rfl (by decide) (ceX_136 _ _ _) rfl rfl ca_X7_reachFrom cv_X7_reachFrom w_688 rfl ⟨Nat.le_of_ble_eq_true rfl, Nat.le_of_ble_eq_true rfl⟩ ⟨Nat.le_of_ble_eq_true rfl, Nat.le_of_ble_eq_true rfl⟩ (Nat.le_of_ble_eq_true rfl) dX7_reach_7 (fun v7 e9 => c_X7_reachFrom _ _ v7 e9) h (fun v7 h => ?_) rfl
  exact xx_iretp C E rfl ⟨Nat.le_of_ble_eq_true rfl, Nat.le_of_ble_eq_true rfl⟩ dX7_reach_10 h

def f_X7_isHeldBySome_L2 (a1 : Int) (a2 : Int) (μ : mu_T) : Nat → Int → Option Int
  | 0, _ => none
  | fu2 + 1, x3_2 => lt_ x3_2 96
      (rd_ μ 1 96 x3_2 (fun v22 => jn_ (φ := Unit → Option Int) (fun _ => nm_ (x3_2 + 1) (fun n39 => (f_X7_isHeldBySome_L2 a1 a2 μ fu2) n39))
      (fun J39 => eq_ v22 a2
      (dv_ x3_2 4 (fun v30 => bd_ (f_X7_isIn μ a1 v30) (fun v31 => eq_ v31 0
      (J39 ())
      (some 1))))
      (J39 ()))))
      (some 0)
def f_X7_isHeldBySome (μ : mu_T) (a1 : Int) (a2 : Int) : Option Int :=
  f_X7_isHeldBySome_L2 a1 a2 μ 20000 0
set_option maxHeartbeats 4000000 in
set_option maxRecDepth 100000 in
theorem c_X7_isHeldBySome {G : gp_} {ad : Nat → Nat} (μ : mu_T) (a1 : Int) (a2 : Int) (a : Int) (h : f_X7_isHeldBySome μ a1 a2 = some a) : mi_ yX7_isHeldBySome cX7_isHeldBySome 4 (some .boolean) ({ frames := 3, cells := 0, slots := 0, locals := 61 } : Room) G 151 ad (ceX G ad) [.ref (ad 136), .int (iI a1), .int (iI a2)] μ a μ := by
  refine mi_in (own := "UrnHeap$Paths") (lv := [(0, .ref (ad 136)), (1, .int (iI a1)), (2, .int (iI a2))]) (by decide) rfl rfl (Nat.le_of_ble_eq_true rfl) (fun X C E => ?_)
  unfold f_X7_isHeldBySome at h
  refine xx_iconst C 1 rfl dX7_isHeldBySome_0 ?_
  refine xx_istore_n (lv1 := [(3, .int (iI 0)), (0, .ref (ad 136)), (1, .int (iI a1)), (2, .int (iI a2))]) C 2 rfl (by decide) dX7_isHeldBySome_1 rfl rfl ?_
  have L2 : ∀ (fu2 : Nat) (x3_2 : Int), f_X7_isHeldBySome_L2 a1 a2 μ fu2 x3_2 = some a → wx_ G X 151 ad (ceX G ad) μ 0 0 2 [(0, .ref (ad 136)), (1, .int (iI a1)), (2, .int (iI a2)), (3, .int (iI x3_2))] [] := by
    intro fu2
    induction fu2 with
    | zero => intro x3_2 h; exact nn_ h
    | succ fu2 K2 =>
      intro x3_2 h
      rw [f_X7_isHeldBySome_L2] at h
      generalize f_X7_isHeldBySome_L2 a1 a2 μ fu2 = R2 at K2 h
      refine xx_iload_n C 3 rfl 3 dX7_isHeldBySome_2 rfl rfl ?_
      refine xx_aload_n C 4 rfl 0 dX7_isHeldBySome_3 rfl rfl ?_
      refine xx_getr (fi := 0) C 7 rfl (by decide) (ceX_136 _ _ _) rfl in_X7 (by decide) rfl rfl w_278 dX7_isHeldBySome_4 ?_
      refine xx_getr (fi := 0) C 10 rfl (by decide) (ceX_0 _ _ _) rfl in_X2 (by decide) rfl rfl w_137 dX7_isHeldBySome_7 ?_
      refine xx_alen (nA := 96) C 11 rfl (by decide) (fun row => ceX_1 _ _ row) dX7_isHeldBySome_10 ?_
      refine xx_icmp_ge (tgt := 45) C 14 rfl dX7_isHeldBySome_11 (by decide) h (fun h => ?_) (fun h => ?_)
      · refine xx_iconst C 46 rfl dX7_isHeldBySome_45 ?_
        exact xx_zretl C E rfl rfl ⟨Nat.le_of_ble_eq_true rfl, Nat.le_of_ble_eq_true rfl⟩ dX7_isHeldBySome_46 h
      · refine xx_aload_n C 15 rfl 0 dX7_isHeldBySome_14 rfl rfl ?_
        refine xx_getr (fi := 0) C 18 rfl (by decide) (ceX_136 _ _ _) rfl in_X7 (by decide) rfl rfl w_278 dX7_isHeldBySome_15 ?_
        refine xx_getr (fi := 0) C 21 rfl (by decide) (ceX_0 _ _ _) rfl in_X2 (by decide) rfl rfl w_137 dX7_isHeldBySome_18 ?_
        refine xx_iload_n C 22 rfl 3 dX7_isHeldBySome_21 rfl rfl ?_
        refine xx_iaload C 23 rfl (by decide) (fun row => ceX_1 _ _ row) (by decide) dX7_isHeldBySome_22 h (fun v22 h => ?_)
        refine xx_iload_n C 24 rfl 2 dX7_isHeldBySome_23 rfl rfl ?_
        refine jn_r (fun J => ∀ (_u : Unit), J _u = some a → wx_ G X 151 ad (ceX G ad) μ 0 0 39 [(0, .ref (ad 136)), (1, .int (iI a1)), (2, .int (iI a2)), (3, .int (iI x3_2))] []) h (fun _ h => ?_) (fun J39 K39 h => ?_)
        · refine xx_iincn C 42 rfl 3 (by decide) dX7_isHeldBySome_39 rfl h (fun n39 h => ?_)
          refine xx_lv (lv1 := [(3, .int (iI n39)), (0, .ref (ad 136)), (1, .int (iI a1)), (2, .int (iI a2))]) rfl ?_
          refine xx_goto C 2 dX7_isHeldBySome_42 (by decide) ?_
          refine xx_sub [1, 2, 3, 0] rfl ?_
          exact K2 n39 h
        · refine xx_icmp_ne (tgt := 39) C 27 rfl dX7_isHeldBySome_24 (by decide) h (fun h => ?_) (fun h => ?_)
          · exact K39 () h
          · refine xx_iload_n C 28 rfl 1 dX7_isHeldBySome_27 rfl rfl ?_
            refine xx_iload_n C 29 rfl 3 dX7_isHeldBySome_28 rfl rfl ?_
            refine xx_iconst C 30 rfl dX7_isHeldBySome_29 ?_
            refine xx_idiv C 31 rfl dX7_isHeldBySome_30 h (fun v30 h => ?_)
            refine xx_cSip (As := [.int (iI a1), .int (iI v30)]) (st := []) C 34 rfl  ca_X7_isIn cs_X7_isIn w_696 rfl ⟨Nat.le_of_ble_eq_true rfl, Nat.le_of_ble_eq_true rfl⟩ ⟨Nat.le_of_ble_eq_true rfl, Nat.le_of_ble_eq_true rfl⟩ (Nat.le_of_ble_eq_true rfl) dX7_isHeldBySome_31 (fun v31 e9 => c_X7_isIn _ _ _ v31 e9) h (fun v31 h => ?_) rfl
            refine xx_if_eq (tgt := 39) C 37 rfl dX7_isHeldBySome_34 (by decide) h (fun h => ?_) (fun h => ?_)
            · exact K39 () h
            · refine xx_iconst C 38 rfl dX7_isHeldBySome_37 ?_
              exact xx_zretl C E rfl rfl ⟨Nat.le_of_ble_eq_true rfl, Nat.le_of_ble_eq_true rfl⟩ dX7_isHeldBySome_38 h
  refine xx_sub [1, 2, 3, 0] rfl ?_
  exact L2 _ _ h

def f_X7_reachUrnByUrn_L26 (J68 : Int → Int → Option Int) (μ : mu_T) : Nat → Int → Int → Int → Option Int
  | 0, _, _, _ => none
  | fu26 + 1, x1_26, x2_26, x4_26 => lt_ x4_26 24
      (bd_ (f_X7_isIn μ x1_26 x4_26) (fun v36 => jn_ (φ := Int → Int → Option Int) (fun x1_62 x2_62 => nm_ (x4_26 + 1) (fun n62 => (f_X7_reachUrnByUrn_L26 J68 μ fu26) x1_62 x2_62 n62))
      (fun J62 => eq_ v36 0
      (bd_ (f_X7_isHeldBySome μ x1_26 x4_26) (fun v46 => eq_ v46 0
      (J62 x1_26 x2_26)
      (bd_ (f_X7_bit μ x4_26) (fun v55 => nm_ ((or_ x1_26 v55)) (fun n59 => J62 n59 1)))))
      (J62 x1_26 x2_26))))
      (J68 x1_26 x2_26)
def f_X7_reachUrnByUrn_L11 (μ : mu_T) : Nat → Int → Int → Int → Option Int
  | 0, _, _, _ => none
  | fu11 + 1, x1_11, x2_11, x3_11 => lt_ 24 x3_11
      (some x1_11)
      (eq_ x2_11 0
      (some x1_11)
      (jn_ (φ := Int → Int → Option Int) (fun x1_68 x2_68 => nm_ (x3_11 + 1) (fun n68 => (f_X7_reachUrnByUrn_L11 μ fu11) x1_68 x2_68 n68))
      (fun J68 => f_X7_reachUrnByUrn_L26 J68 μ 20000 x1_11 0 0)))
def f_X7_reachUrnByUrn (μ : mu_T)  : Option Int :=
  bd_ (f_X7_roots μ (-15)) (fun v3 => f_X7_reachUrnByUrn_L11 μ 20000 v3 1 0)
set_option maxHeartbeats 4000000 in
set_option maxRecDepth 100000 in
theorem c_X7_reachUrnByUrn {G : gp_} {ad : Nat → Nat} (μ : mu_T)  (a : Int) (h : f_X7_reachUrnByUrn μ  = some a) : mi_ yX7_reachUrnByUrn cX7_reachUrnByUrn 5 (some .int) ({ frames := 4, cells := 0, slots := 0, locals := 86 } : Room) G 151 ad (ceX G ad) [.ref (ad 136)] μ a μ := by
  refine mi_in (own := "UrnHeap$Paths") (lv := [(0, .ref (ad 136))]) (by decide) rfl rfl (Nat.le_of_ble_eq_true rfl) (fun X C E => ?_)
  unfold f_X7_reachUrnByUrn at h
  refine xx_aload_n C 1 rfl 0 dX7_reachUrnByUrn_0 rfl rfl ?_
  refine xx_bipush C 3 rfl dX7_reachUrnByUrn_1 (by decide) ?_
  refine xx_cVip (As := [.int (iI (-15))]) (st := []) (o := 136) C 6 rfl (by decide) (ceX_136 _ _ _) rfl rfl ca_X7_roots cv_X7_roots w_675 rfl ⟨Nat.le_of_ble_eq_true rfl, Nat.le_of_ble_eq_true rfl⟩ ⟨Nat.le_of_ble_eq_true rfl, Nat.le_of_ble_eq_true rfl⟩ (Nat.le_of_ble_eq_true rfl) dX7_reachUrnByUrn_3 (fun v3 e9 => c_X7_roots _ _ v3 e9) h (fun v3 h => ?_) rfl
  refine xx_istore_n (lv1 := [(1, .int (iI v3)), (0, .ref (ad 136))]) C 7 rfl (by decide) dX7_reachUrnByUrn_6 rfl rfl ?_
  refine xx_iconst C 8 rfl dX7_reachUrnByUrn_7 ?_
  refine xx_istore_n (lv1 := [(2, .int (iI 1)), (1, .int (iI v3)), (0, .ref (ad 136))]) C 9 rfl (by decide) dX7_reachUrnByUrn_8 rfl rfl ?_
  refine xx_iconst C 10 rfl dX7_reachUrnByUrn_9 ?_
  refine xx_istore_n (lv1 := [(3, .int (iI 0)), (2, .int (iI 1)), (1, .int (iI v3)), (0, .ref (ad 136))]) C 11 rfl (by decide) dX7_reachUrnByUrn_10 rfl rfl ?_
  have L11 : ∀ (fu11 : Nat) (x1_11 : Int) (x2_11 : Int) (x3_11 : Int), f_X7_reachUrnByUrn_L11 μ fu11 x1_11 x2_11 x3_11 = some a → wx_ G X 151 ad (ceX G ad) μ 0 0 11 [(0, .ref (ad 136)), (1, .int (iI x1_11)), (2, .int (iI x2_11)), (3, .int (iI x3_11))] [] := by
    intro fu11
    induction fu11 with
    | zero => intro x1_11 x2_11 x3_11 h; exact nn_ h
    | succ fu11 K11 =>
      intro x1_11 x2_11 x3_11 h
      rw [f_X7_reachUrnByUrn_L11] at h
      generalize f_X7_reachUrnByUrn_L11 μ fu11 = R11 at K11 h
      refine xx_iload_n C 12 rfl 3 dX7_reachUrnByUrn_11 rfl rfl ?_
      refine xx_bipush C 14 rfl dX7_reachUrnByUrn_12 (by decide) ?_
      refine xx_icmp_gt (tgt := 74) C 17 rfl dX7_reachUrnByUrn_14 (by decide) h (fun h => ?_) (fun h => ?_)
      · refine xx_iload_n C 75 rfl 1 dX7_reachUrnByUrn_74 rfl rfl ?_
        exact xx_iretp C E rfl ⟨Nat.le_of_ble_eq_true rfl, Nat.le_of_ble_eq_true rfl⟩ dX7_reachUrnByUrn_75 h
      · refine xx_iload_n C 18 rfl 2 dX7_reachUrnByUrn_17 rfl rfl ?_
        refine xx_if_eq (tgt := 74) C 21 rfl dX7_reachUrnByUrn_18 (by decide) h (fun h => ?_) (fun h => ?_)
        · refine xx_iload_n C 75 rfl 1 dX7_reachUrnByUrn_74 rfl rfl ?_
          exact xx_iretp C E rfl ⟨Nat.le_of_ble_eq_true rfl, Nat.le_of_ble_eq_true rfl⟩ dX7_reachUrnByUrn_75 h
        · refine xx_iconst C 22 rfl dX7_reachUrnByUrn_21 ?_
          refine xx_istore_n (lv1 := [(2, .int (iI 0)), (0, .ref (ad 136)), (1, .int (iI x1_11)), (3, .int (iI x3_11))]) C 23 rfl (by decide) dX7_reachUrnByUrn_22 rfl rfl ?_
          refine xx_iconst C 24 rfl dX7_reachUrnByUrn_23 ?_
          refine xx_istore (lv1 := [(4, .int (iI 0)), (2, .int (iI 0)), (0, .ref (ad 136)), (1, .int (iI x1_11)), (3, .int (iI x3_11))]) C 26 rfl (by decide) dX7_reachUrnByUrn_24 rfl ?_
          refine jn_r (fun J => ∀ (x1_68 : Int) (x2_68 : Int), J x1_68 x2_68 = some a → wx_ G X 151 ad (ceX G ad) μ 0 0 68 [(0, .ref (ad 136)), (1, .int (iI x1_68)), (2, .int (iI x2_68)), (3, .int (iI x3_11))] []) h (fun x1_68 x2_68 h => ?_) (fun J68 K68 h => ?_)
          · refine xx_iincn C 71 rfl 3 (by decide) dX7_reachUrnByUrn_68 rfl h (fun n68 h => ?_)
            refine xx_lv (lv1 := [(3, .int (iI n68)), (0, .ref (ad 136)), (1, .int (iI x1_68)), (2, .int (iI x2_68))]) rfl ?_
            refine xx_goto C 11 dX7_reachUrnByUrn_71 (by decide) ?_
            refine xx_sub [1, 2, 3, 0] rfl ?_
            exact K11 x1_68 x2_68 n68 h
          · have L26 : ∀ (fu26 : Nat) (x1_26 : Int) (x2_26 : Int) (x4_26 : Int), f_X7_reachUrnByUrn_L26 J68 μ fu26 x1_26 x2_26 x4_26 = some a → wx_ G X 151 ad (ceX G ad) μ 0 0 26 [(0, .ref (ad 136)), (1, .int (iI x1_26)), (2, .int (iI x2_26)), (3, .int (iI x3_11)), (4, .int (iI x4_26))] [] := by
              intro fu26
              induction fu26 with
              | zero => intro x1_26 x2_26 x4_26 h; exact nn_ h
              | succ fu26 K26 =>
                intro x1_26 x2_26 x4_26 h
                rw [f_X7_reachUrnByUrn_L26] at h
                generalize f_X7_reachUrnByUrn_L26 J68 μ fu26 = R26 at K26 h
                refine xx_iload C 28 rfl 4 dX7_reachUrnByUrn_26 rfl ?_
                refine xx_bipush C 30 rfl dX7_reachUrnByUrn_28 (by decide) ?_
                refine xx_icmp_ge (tgt := 68) C 33 rfl dX7_reachUrnByUrn_30 (by decide) h (fun h => ?_) (fun h => ?_)
                · refine xx_sub [0, 1, 2, 3] rfl ?_
                  exact K68 x1_26 x2_26 h
                · refine xx_iload_n C 34 rfl 1 dX7_reachUrnByUrn_33 rfl rfl ?_
                  refine xx_iload C 36 rfl 4 dX7_reachUrnByUrn_34 rfl ?_
                  refine xx_cSip (As := [.int (iI x1_26), .int (iI x4_26)]) (st := []) C 39 rfl  ca_X7_isIn cs_X7_isIn w_696 rfl ⟨Nat.le_of_ble_eq_true rfl, Nat.le_of_ble_eq_true rfl⟩ ⟨Nat.le_of_ble_eq_true rfl, Nat.le_of_ble_eq_true rfl⟩ (Nat.le_of_ble_eq_true rfl) dX7_reachUrnByUrn_36 (fun v36 e9 => c_X7_isIn _ _ _ v36 e9) h (fun v36 h => ?_) rfl
                  refine jn_r (fun J => ∀ (x1_62 : Int) (x2_62 : Int), J x1_62 x2_62 = some a → wx_ G X 151 ad (ceX G ad) μ 0 0 62 [(0, .ref (ad 136)), (1, .int (iI x1_62)), (2, .int (iI x2_62)), (3, .int (iI x3_11)), (4, .int (iI x4_26))] []) h (fun x1_62 x2_62 h => ?_) (fun J62 K62 h => ?_)
                  · refine xx_iincn C 65 rfl 4 (by decide) dX7_reachUrnByUrn_62 rfl h (fun n62 h => ?_)
                    refine xx_lv (lv1 := [(4, .int (iI n62)), (0, .ref (ad 136)), (1, .int (iI x1_62)), (2, .int (iI x2_62)), (3, .int (iI x3_11))]) rfl ?_
                    refine xx_goto C 26 dX7_reachUrnByUrn_65 (by decide) ?_
                    refine xx_sub [1, 2, 3, 4, 0] rfl ?_
                    exact K26 x1_62 x2_62 n62 h
                  · refine xx_if_ne (tgt := 62) C 42 rfl dX7_reachUrnByUrn_39 (by decide) h (fun h => ?_) (fun h => ?_)
                    · exact K62 x1_26 x2_26 h
                    · refine xx_aload_n C 43 rfl 0 dX7_reachUrnByUrn_42 rfl rfl ?_
                      refine xx_iload_n C 44 rfl 1 dX7_reachUrnByUrn_43 rfl rfl ?_
                      refine xx_iload C 46 rfl 4 dX7_reachUrnByUrn_44 rfl ?_
                      refine xx_cVip (As := [.int (iI x1_26), .int (iI x4_26)]) (st := []) (o := 136) C 49 rfl (by decide) (ceX_136 _ _ _) rfl rfl ca_X7_isHeldBySome cv_X7_isHeldBySome w_712 rfl ⟨Nat.le_of_ble_eq_true rfl, Nat.le_of_ble_eq_true rfl⟩ ⟨Nat.le_of_ble_eq_true rfl, Nat.le_of_ble_eq_true rfl⟩ (Nat.le_of_ble_eq_true rfl) dX7_reachUrnByUrn_46 (fun v46 e9 => c_X7_isHeldBySome _ _ _ v46 e9) h (fun v46 h => ?_) rfl
                      refine xx_if_eq (tgt := 62) C 52 rfl dX7_reachUrnByUrn_49 (by decide) h (fun h => ?_) (fun h => ?_)
                      · exact K62 x1_26 x2_26 h
                      · refine xx_iload_n C 53 rfl 1 dX7_reachUrnByUrn_52 rfl rfl ?_
                        refine xx_iload C 55 rfl 4 dX7_reachUrnByUrn_53 rfl ?_
                        refine xx_cSip (As := [.int (iI x4_26)]) (st := [.int (iI x1_26)]) C 58 rfl  ca_X7_bit cs_X7_bit w_684 rfl ⟨Nat.le_of_ble_eq_true rfl, Nat.le_of_ble_eq_true rfl⟩ ⟨Nat.le_of_ble_eq_true rfl, Nat.le_of_ble_eq_true rfl⟩ (Nat.le_of_ble_eq_true rfl) dX7_reachUrnByUrn_55 (fun v55 e9 => c_X7_bit _ _ v55 e9) h (fun v55 h => ?_) rfl
                        refine xx_ior C 59 rfl dX7_reachUrnByUrn_58 ?_
                        refine xx_nm C h (fun n59 h => ?_)
                        refine xx_istore_n (lv1 := [(1, .int (iI n59)), (0, .ref (ad 136)), (2, .int (iI x2_26)), (3, .int (iI x3_11)), (4, .int (iI x4_26))]) C 60 rfl (by decide) dX7_reachUrnByUrn_59 rfl rfl ?_
                        refine xx_iconst C 61 rfl dX7_reachUrnByUrn_60 ?_
                        refine xx_istore_n (lv1 := [(2, .int (iI 1)), (1, .int (iI n59)), (0, .ref (ad 136)), (3, .int (iI x3_11)), (4, .int (iI x4_26))]) C 62 rfl (by decide) dX7_reachUrnByUrn_61 rfl rfl ?_
                        refine xx_sub [2, 1, 0, 3, 4] rfl ?_
                        exact K62 n59 1 h
            refine xx_sub [2, 3, 1, 4, 0] rfl ?_
            exact L26 _ _ _ _ h
  refine xx_sub [3, 2, 1, 0] rfl ?_
  exact L11 _ _ _ _ h

def f_X7_distance_L8 (a2 : Int) (μ : mu_T) : Nat → Int → Int → Int → Option Int
  | 0, _, _, _ => none
  | fu8 + 1, x3_8, x4_8, x5_8 => lt_ x5_8 24
      (eq_ x4_8 0
      (some (-15))
      (bd_ (f_X7_isIn μ x4_8 a2) (fun v23 => eq_ v23 0
      (bd_ (f_X7_targetsOfAll μ x4_8) (fun v35 => nm_ ((an_ v35 (xo_ x3_8 (-1)))) (fun n42 => nm_ ((or_ x3_8 n42)) (fun n48 => nm_ (x5_8 + 1) (fun n49 => (f_X7_distance_L8 a2 μ fu8) n48 n42 n49)))))
      (some x5_8))))
      (some (-15))
def f_X7_distance (μ : mu_T) (a1 : Int) (a2 : Int) : Option Int :=
  f_X7_distance_L8 a2 μ 20000 a1 a1 0
set_option maxHeartbeats 4000000 in
set_option maxRecDepth 100000 in
theorem c_X7_distance {G : gp_} {ad : Nat → Nat} (μ : mu_T) (a1 : Int) (a2 : Int) (a : Int) (h : f_X7_distance μ a1 a2 = some a) : mi_ yX7_distance cX7_distance 6 (some .int) ({ frames := 4, cells := 0, slots := 0, locals := 88 } : Room) G 151 ad (ceX G ad) [.ref (ad 136), .int (iI a1), .int (iI a2)] μ a μ := by
  refine mi_in (own := "UrnHeap$Paths") (lv := [(0, .ref (ad 136)), (1, .int (iI a1)), (2, .int (iI a2))]) (by decide) rfl rfl (Nat.le_of_ble_eq_true rfl) (fun X C E => ?_)
  unfold f_X7_distance at h
  refine xx_iload_n C 1 rfl 1 dX7_distance_0 rfl rfl ?_
  refine xx_istore_n (lv1 := [(3, .int (iI a1)), (0, .ref (ad 136)), (1, .int (iI a1)), (2, .int (iI a2))]) C 2 rfl (by decide) dX7_distance_1 rfl rfl ?_
  refine xx_iload_n C 3 rfl 2 dX7_distance_2 rfl rfl ?_
  refine xx_istore (lv1 := [(4, .int (iI a1)), (3, .int (iI a1)), (0, .ref (ad 136)), (1, .int (iI a1)), (2, .int (iI a2))]) C 5 rfl (by decide) dX7_distance_3 rfl ?_
  refine xx_iconst C 6 rfl dX7_distance_5 ?_
  refine xx_istore (lv1 := [(5, .int (iI 0)), (4, .int (iI a1)), (3, .int (iI a1)), (0, .ref (ad 136)), (1, .int (iI a1)), (2, .int (iI a2))]) C 8 rfl (by decide) dX7_distance_6 rfl ?_
  have L8 : ∀ (fu8 : Nat) (x3_8 : Int) (x4_8 : Int) (x5_8 : Int), f_X7_distance_L8 a2 μ fu8 x3_8 x4_8 x5_8 = some a → wx_ G X 151 ad (ceX G ad) μ 0 0 8 [(0, .ref (ad 136)), (2, .int (iI a2)), (3, .int (iI x3_8)), (4, .int (iI x4_8)), (5, .int (iI x5_8))] [] := by
    intro fu8
    induction fu8 with
    | zero => intro x3_8 x4_8 x5_8 h; exact nn_ h
    | succ fu8 K8 =>
      intro x3_8 x4_8 x5_8 h
      rw [f_X7_distance_L8] at h
      generalize f_X7_distance_L8 a2 μ fu8 = R8 at K8 h
      refine xx_iload C 10 rfl 4 dX7_distance_8 rfl ?_
      refine xx_bipush C 12 rfl dX7_distance_10 (by decide) ?_
      refine xx_icmp_ge (tgt := 55) C 15 rfl dX7_distance_12 (by decide) h (fun h => ?_) (fun h => ?_)
      · refine xx_bipush C 57 rfl dX7_distance_55 (by decide) ?_
        exact xx_iretp C E rfl ⟨Nat.le_of_ble_eq_true rfl, Nat.le_of_ble_eq_true rfl⟩ dX7_distance_57 h
      · refine xx_iload C 17 rfl 3 dX7_distance_15 rfl ?_
        refine xx_if_eq (tgt := 55) C 20 rfl dX7_distance_17 (by decide) h (fun h => ?_) (fun h => ?_)
        · refine xx_bipush C 57 rfl dX7_distance_55 (by decide) ?_
          exact xx_iretp C E rfl ⟨Nat.le_of_ble_eq_true rfl, Nat.le_of_ble_eq_true rfl⟩ dX7_distance_57 h
        · refine xx_iload C 22 rfl 3 dX7_distance_20 rfl ?_
          refine xx_iload_n C 23 rfl 1 dX7_distance_22 rfl rfl ?_
          refine xx_cSip (As := [.int (iI x4_8), .int (iI a2)]) (st := []) C 26 rfl  ca_X7_isIn cs_X7_isIn w_696 rfl ⟨Nat.le_of_ble_eq_true rfl, Nat.le_of_ble_eq_true rfl⟩ ⟨Nat.le_of_ble_eq_true rfl, Nat.le_of_ble_eq_true rfl⟩ (Nat.le_of_ble_eq_true rfl) dX7_distance_23 (fun v23 e9 => c_X7_isIn _ _ _ v23 e9) h (fun v23 h => ?_) rfl
          refine xx_if_eq (tgt := 32) C 29 rfl dX7_distance_26 (by decide) h (fun h => ?_) (fun h => ?_)
          · refine xx_aload_n C 33 rfl 0 dX7_distance_32 rfl rfl ?_
            refine xx_iload C 35 rfl 3 dX7_distance_33 rfl ?_
            refine xx_cVip (As := [.int (iI x4_8)]) (st := []) (o := 136) C 38 rfl (by decide) (ceX_136 _ _ _) rfl rfl ca_X7_targetsOfAll cv_X7_targetsOfAll w_692 rfl ⟨Nat.le_of_ble_eq_true rfl, Nat.le_of_ble_eq_true rfl⟩ ⟨Nat.le_of_ble_eq_true rfl, Nat.le_of_ble_eq_true rfl⟩ (Nat.le_of_ble_eq_true rfl) dX7_distance_35 (fun v35 e9 => c_X7_targetsOfAll _ _ v35 e9) h (fun v35 h => ?_) rfl
            refine xx_iload_n C 39 rfl 2 dX7_distance_38 rfl rfl ?_
            refine xx_iconst C 40 rfl dX7_distance_39 ?_
            refine xx_ixor C 41 rfl dX7_distance_40 ?_
            refine xx_iand C 42 rfl dX7_distance_41 ?_
            refine xx_nm C h (fun n42 h => ?_)
            refine xx_istore (lv1 := [(4, .int (iI n42)), (0, .ref (ad 136)), (2, .int (iI a2)), (3, .int (iI x3_8)), (5, .int (iI x5_8))]) C 44 rfl (by decide) dX7_distance_42 rfl ?_
            refine xx_iload_n C 45 rfl 3 dX7_distance_44 rfl rfl ?_
            refine xx_iload C 47 rfl 0 dX7_distance_45 rfl ?_
            refine xx_ior C 48 rfl dX7_distance_47 ?_
            refine xx_nm C h (fun n48 h => ?_)
            refine xx_istore_n (lv1 := [(3, .int (iI n48)), (4, .int (iI n42)), (0, .ref (ad 136)), (2, .int (iI a2)), (5, .int (iI x5_8))]) C 49 rfl (by decide) dX7_distance_48 rfl rfl ?_
            refine xx_iincn C 52 rfl 4 (by decide) dX7_distance_49 rfl h (fun n49 h => ?_)
            refine xx_lv (lv1 := [(5, .int (iI n49)), (3, .int (iI n48)), (4, .int (iI n42)), (0, .ref (ad 136)), (2, .int (iI a2))]) rfl ?_
            refine xx_goto C 8 dX7_distance_52 (by decide) ?_
            refine xx_sub [3, 4, 1, 2, 0] rfl ?_
            exact K8 n48 n42 n49 h
          · refine xx_iload C 31 rfl 4 dX7_distance_29 rfl ?_
            exact xx_iretp C E rfl ⟨Nat.le_of_ble_eq_true rfl, Nat.le_of_ble_eq_true rfl⟩ dX7_distance_31 h
  refine xx_sub [3, 5, 2, 1, 0] rfl ?_
  exact L8 _ _ _ _ h

def f_X7_neededNames_L17 (a1 : Int) (μ : mu_T) : Nat → Int → Int → Option Int
  | 0, _, _ => none
  | fu17 + 1, x2_17, x3_17 => lt_ x3_17 6
      (bd_ (f_X7_roots μ x3_17) (fun v26 => bd_ (f_X7_reachFrom μ v26) (fun v29 => bd_ (f_X7_isIn μ v29 a1) (fun v33 => jn_ (φ := Int → Option Int) (fun x2_45 => nm_ (x3_17 + 1) (fun n45 => (f_X7_neededNames_L17 a1 μ fu17) x2_45 n45))
      (fun J45 => eq_ v33 0
      (nm_ ((or_ x2_17 (sl_ 1 x3_17))) (fun n44 => J45 n44))
      (J45 x2_17))))))
      (some x2_17)
def f_X7_neededNames (μ : mu_T) (a1 : Int) : Option Int :=
  bd_ (f_X7_reach μ) (fun v3 => bd_ (f_X7_isIn μ v3 a1) (fun v7 => eq_ v7 0
      (some 0)
      (f_X7_neededNames_L17 a1 μ 20000 0 0)))
set_option maxHeartbeats 4000000 in
set_option maxRecDepth 100000 in
theorem c_X7_neededNames {G : gp_} {ad : Nat → Nat} (μ : mu_T) (a1 : Int) (a : Int) (h : f_X7_neededNames μ a1 = some a) : mi_ yX7_neededNames cX7_neededNames 4 (some .int) ({ frames := 6, cells := 0, slots := 0, locals := 132 } : Room) G 151 ad (ceX G ad) [.ref (ad 136), .int (iI a1)] μ a μ := by
  refine mi_in (own := "UrnHeap$Paths") (lv := [(0, .ref (ad 136)), (1, .int (iI a1))]) (by decide) rfl rfl (Nat.le_of_ble_eq_true rfl) (fun X C E => ?_)
  unfold f_X7_neededNames at h
  refine xx_iconst C 1 rfl dX7_neededNames_0 ?_
  refine xx_istore_n (lv1 := [(2, .int (iI 0)), (0, .ref (ad 136)), (1, .int (iI a1))]) C 2 rfl (by decide) dX7_neededNames_1 rfl rfl ?_
  refine xx_aload_n C 3 rfl 1 dX7_neededNames_2 rfl rfl ?_
  refine xx_cVip (As := []) (st := []) (o := 136) C 6 rfl (by decide) (ceX_136 _ _ _) rfl rfl ca_X7_reach cv_X7_reach w_733 rfl ⟨Nat.le_of_ble_eq_true rfl, Nat.le_of_ble_eq_true rfl⟩ ⟨Nat.le_of_ble_eq_true rfl, Nat.le_of_ble_eq_true rfl⟩ (Nat.le_of_ble_eq_true rfl) dX7_neededNames_3 (fun v3 e9 => c_X7_reach _ v3 e9) h (fun v3 h => ?_) rfl
  refine xx_iload_n C 7 rfl 2 dX7_neededNames_6 rfl rfl ?_
  refine xx_cSip (As := [.int (iI v3), .int (iI a1)]) (st := []) C 10 rfl  ca_X7_isIn cs_X7_isIn w_696 rfl ⟨Nat.le_of_ble_eq_true rfl, Nat.le_of_ble_eq_true rfl⟩ ⟨Nat.le_of_ble_eq_true rfl, Nat.le_of_ble_eq_true rfl⟩ (Nat.le_of_ble_eq_true rfl) dX7_neededNames_7 (fun v7 e9 => c_X7_isIn _ _ _ v7 e9) h (fun v7 h => ?_) rfl
  refine xx_if_ne (tgt := 15) C 13 rfl dX7_neededNames_10 (by decide) h (fun h => ?_) (fun h => ?_)
  · refine xx_iconst C 16 rfl dX7_neededNames_15 ?_
    refine xx_istore_n (lv1 := [(3, .int (iI 0)), (2, .int (iI 0)), (0, .ref (ad 136)), (1, .int (iI a1))]) C 17 rfl (by decide) dX7_neededNames_16 rfl rfl ?_
    have L17 : ∀ (fu17 : Nat) (x2_17 : Int) (x3_17 : Int), f_X7_neededNames_L17 a1 μ fu17 x2_17 x3_17 = some a → wx_ G X 151 ad (ceX G ad) μ 0 0 17 [(0, .ref (ad 136)), (1, .int (iI a1)), (2, .int (iI x2_17)), (3, .int (iI x3_17))] [] := by
      intro fu17
      induction fu17 with
      | zero => intro x2_17 x3_17 h; exact nn_ h
      | succ fu17 K17 =>
        intro x2_17 x3_17 h
        rw [f_X7_neededNames_L17] at h
        generalize f_X7_neededNames_L17 a1 μ fu17 = R17 at K17 h
        refine xx_iload_n C 18 rfl 3 dX7_neededNames_17 rfl rfl ?_
        refine xx_bipush C 20 rfl dX7_neededNames_18 (by decide) ?_
        refine xx_icmp_ge (tgt := 51) C 23 rfl dX7_neededNames_20 (by decide) h (fun h => ?_) (fun h => ?_)
        · refine xx_iload_n C 52 rfl 2 dX7_neededNames_51 rfl rfl ?_
          exact xx_iretp C E rfl ⟨Nat.le_of_ble_eq_true rfl, Nat.le_of_ble_eq_true rfl⟩ dX7_neededNames_52 h
        · refine xx_aload_n C 24 rfl 0 dX7_neededNames_23 rfl rfl ?_
          refine xx_aload_n C 25 rfl 0 dX7_neededNames_24 rfl rfl ?_
          refine xx_iload_n C 26 rfl 3 dX7_neededNames_25 rfl rfl ?_
          refine xx_cVip (As := [.int (iI x3_17)]) (st := [.ref (ad 136)]) (o := 136) C 29 rfl (by decide) (ceX_136 _ _ _) rfl rfl ca_X7_roots cv_X7_roots w_675 rfl ⟨Nat.le_of_ble_eq_true rfl, Nat.le_of_ble_eq_true rfl⟩ ⟨Nat.le_of_ble_eq_true rfl, Nat.le_of_ble_eq_true rfl⟩ (Nat.le_of_ble_eq_true rfl) dX7_neededNames_26 (fun v26 e9 => c_X7_roots _ _ v26 e9) h (fun v26 h => ?_) rfl
          refine xx_cVip (As := [.int (iI v26)]) (st := []) (o := 136) C 32 rfl (by decide) (ceX_136 _ _ _) rfl rfl ca_X7_reachFrom cv_X7_reachFrom w_688 rfl ⟨Nat.le_of_ble_eq_true rfl, Nat.le_of_ble_eq_true rfl⟩ ⟨Nat.le_of_ble_eq_true rfl, Nat.le_of_ble_eq_true rfl⟩ (Nat.le_of_ble_eq_true rfl) dX7_neededNames_29 (fun v29 e9 => c_X7_reachFrom _ _ v29 e9) h (fun v29 h => ?_) rfl
          refine xx_iload_n C 33 rfl 1 dX7_neededNames_32 rfl rfl ?_
          refine xx_cSip (As := [.int (iI v29), .int (iI a1)]) (st := []) C 36 rfl  ca_X7_isIn cs_X7_isIn w_696 rfl ⟨Nat.le_of_ble_eq_true rfl, Nat.le_of_ble_eq_true rfl⟩ ⟨Nat.le_of_ble_eq_true rfl, Nat.le_of_ble_eq_true rfl⟩ (Nat.le_of_ble_eq_true rfl) dX7_neededNames_33 (fun v33 e9 => c_X7_isIn _ _ _ v33 e9) h (fun v33 h => ?_) rfl
          refine jn_r (fun J => ∀ (x2_45 : Int), J x2_45 = some a → wx_ G X 151 ad (ceX G ad) μ 0 0 45 [(0, .ref (ad 136)), (1, .int (iI a1)), (2, .int (iI x2_45)), (3, .int (iI x3_17))] []) h (fun x2_45 h => ?_) (fun J45 K45 h => ?_)
          · refine xx_iincn C 48 rfl 3 (by decide) dX7_neededNames_45 rfl h (fun n45 h => ?_)
            refine xx_lv (lv1 := [(3, .int (iI n45)), (0, .ref (ad 136)), (1, .int (iI a1)), (2, .int (iI x2_45))]) rfl ?_
            refine xx_goto C 17 dX7_neededNames_48 (by decide) ?_
            refine xx_sub [1, 2, 3, 0] rfl ?_
            exact K17 x2_45 n45 h
          · refine xx_if_ne (tgt := 45) C 39 rfl dX7_neededNames_36 (by decide) h (fun h => ?_) (fun h => ?_)
            · exact K45 x2_17 h
            · refine xx_iload_n C 40 rfl 2 dX7_neededNames_39 rfl rfl ?_
              refine xx_iconst C 41 rfl dX7_neededNames_40 ?_
              refine xx_iload_n C 42 rfl 3 dX7_neededNames_41 rfl rfl ?_
              refine xx_ishl C 43 rfl dX7_neededNames_42 ?_
              refine xx_ior C 44 rfl dX7_neededNames_43 ?_
              refine xx_nm C h (fun n44 h => ?_)
              refine xx_istore_n (lv1 := [(2, .int (iI n44)), (0, .ref (ad 136)), (1, .int (iI a1)), (3, .int (iI x3_17))]) C 45 rfl (by decide) dX7_neededNames_44 rfl rfl ?_
              refine xx_sub [1, 2, 0, 3] rfl ?_
              exact K45 n44 h
    refine xx_sub [2, 3, 1, 0] rfl ?_
    exact L17 _ _ _ h
  · refine xx_iload_n C 14 rfl 0 dX7_neededNames_13 rfl rfl ?_
    exact xx_iretp C E rfl ⟨Nat.le_of_ble_eq_true rfl, Nat.le_of_ble_eq_true rfl⟩ dX7_neededNames_14 h

def f_X7_ringLength (μ : mu_T) (a1 : Int) : Option Int :=
  bd_ (f_X7_targets μ a1) (fun v3 => bd_ (f_X7_distance μ v3 a1) (fun v7 => eq_ v7 (-15)
      (some (-15))
      (some (v7 + 1))))
set_option maxHeartbeats 4000000 in
set_option maxRecDepth 100000 in
theorem c_X7_ringLength {G : gp_} {ad : Nat → Nat} (μ : mu_T) (a1 : Int) (a : Int) (h : f_X7_ringLength μ a1 = some a) : mi_ yX7_ringLength cX7_ringLength 3 (some .int) ({ frames := 5, cells := 0, slots := 0, locals := 113 } : Room) G 151 ad (ceX G ad) [.ref (ad 136), .int (iI a1)] μ a μ := by
  refine mi_in (own := "UrnHeap$Paths") (lv := [(0, .ref (ad 136)), (1, .int (iI a1))]) (by decide) rfl rfl (Nat.le_of_ble_eq_true rfl) (fun X C E => ?_)
  unfold f_X7_ringLength at h
  refine xx_aload_n C 1 rfl 0 dX7_ringLength_0 rfl rfl ?_
  refine xx_aload_n C 2 rfl 0 dX7_ringLength_1 rfl rfl ?_
  refine xx_iload_n C 3 rfl 1 dX7_ringLength_2 rfl rfl ?_
  refine xx_cVip (As := [.int (iI a1)]) (st := [.ref (ad 136)]) (o := 136) C 6 rfl (by decide) (ceX_136 _ _ _) rfl rfl ca_X7_targets cv_X7_targets w_699 rfl ⟨Nat.le_of_ble_eq_true rfl, Nat.le_of_ble_eq_true rfl⟩ ⟨Nat.le_of_ble_eq_true rfl, Nat.le_of_ble_eq_true rfl⟩ (Nat.le_of_ble_eq_true rfl) dX7_ringLength_3 (fun v3 e9 => c_X7_targets _ _ v3 e9) h (fun v3 h => ?_) rfl
  refine xx_iload_n C 7 rfl 1 dX7_ringLength_6 rfl rfl ?_
  refine xx_cVip (As := [.int (iI v3), .int (iI a1)]) (st := []) (o := 136) C 10 rfl (by decide) (ceX_136 _ _ _) rfl rfl ca_X7_distance cv_X7_distance w_742 rfl ⟨Nat.le_of_ble_eq_true rfl, Nat.le_of_ble_eq_true rfl⟩ ⟨Nat.le_of_ble_eq_true rfl, Nat.le_of_ble_eq_true rfl⟩ (Nat.le_of_ble_eq_true rfl) dX7_ringLength_7 (fun v7 e9 => c_X7_distance _ _ _ v7 e9) h (fun v7 h => ?_) rfl
  refine xx_istore_n (lv1 := [(2, .int (iI v7)), (0, .ref (ad 136)), (1, .int (iI a1))]) C 11 rfl (by decide) dX7_ringLength_10 rfl rfl ?_
  refine xx_iload_n C 12 rfl 0 dX7_ringLength_11 rfl rfl ?_
  refine xx_bipush C 14 rfl dX7_ringLength_12 (by decide) ?_
  refine xx_icmp_ne (tgt := 22) C 17 rfl dX7_ringLength_14 (by decide) h (fun h => ?_) (fun h => ?_)
  · refine xx_iload_n C 23 rfl 0 dX7_ringLength_22 rfl rfl ?_
    refine xx_iconst C 24 rfl dX7_ringLength_23 ?_
    refine xx_iadd C 25 rfl dX7_ringLength_24 ?_
    exact xx_iretp C E rfl ⟨Nat.le_of_ble_eq_true rfl, Nat.le_of_ble_eq_true rfl⟩ dX7_ringLength_25 h
  · refine xx_bipush C 19 rfl dX7_ringLength_17 (by decide) ?_
    refine xx_goto C 25 dX7_ringLength_19 (by decide) ?_
    exact xx_iretp C E rfl ⟨Nat.le_of_ble_eq_true rfl, Nat.le_of_ble_eq_true rfl⟩ dX7_ringLength_25 h

def f_X7_leftOver_L21 (v13 : Int) (μ : mu_T) : Nat → Int → Int → Option Int
  | 0, _, _ => none
  | fu21 + 1, x2_21, x3_21 => lt_ x3_21 24
      (bd_ (f_X2_hasUrn μ x3_21) (fun v32 => jn_ (φ := Int → Option Int) (fun x2_53 => nm_ (x3_21 + 1) (fun n53 => (f_X7_leftOver_L21 v13 μ fu21) x2_53 n53))
      (fun J53 => eq_ v32 0
      (J53 x2_21)
      (bd_ (f_X7_isIn μ v13 x3_21) (fun v40 => eq_ v40 0
      (bd_ (f_X7_bit μ x3_21) (fun v48 => nm_ ((or_ x2_21 v48)) (fun n52 => J53 n52)))
      (J53 x2_21))))))
      (some x2_21)
def f_X7_leftOver (μ : mu_T)  : Option Int :=
  bd_ (f_X7_roots μ (-15)) (fun v4 => bd_ (f_X7_rootsByRite μ 1) (fun v9 => bd_ (f_X7_reachFrom μ (or_ v4 v9)) (fun v13 => f_X7_leftOver_L21 v13 μ 20000 0 0)))
set_option maxHeartbeats 4000000 in
set_option maxRecDepth 100000 in
theorem c_X7_leftOver {G : gp_} {ad : Nat → Nat} (μ : mu_T)  (a : Int) (h : f_X7_leftOver μ  = some a) : mi_ yX7_leftOver cX7_leftOver 4 (some .int) ({ frames := 5, cells := 0, slots := 0, locals := 112 } : Room) G 151 ad (ceX G ad) [.ref (ad 136)] μ a μ := by
  refine mi_in (own := "UrnHeap$Paths") (lv := [(0, .ref (ad 136))]) (by decide) rfl rfl (Nat.le_of_ble_eq_true rfl) (fun X C E => ?_)
  unfold f_X7_leftOver at h
  refine xx_aload_n C 1 rfl 0 dX7_leftOver_0 rfl rfl ?_
  refine xx_aload_n C 2 rfl 0 dX7_leftOver_1 rfl rfl ?_
  refine xx_bipush C 4 rfl dX7_leftOver_2 (by decide) ?_
  refine xx_cVip (As := [.int (iI (-15))]) (st := [.ref (ad 136)]) (o := 136) C 7 rfl (by decide) (ceX_136 _ _ _) rfl rfl ca_X7_roots cv_X7_roots w_675 rfl ⟨Nat.le_of_ble_eq_true rfl, Nat.le_of_ble_eq_true rfl⟩ ⟨Nat.le_of_ble_eq_true rfl, Nat.le_of_ble_eq_true rfl⟩ (Nat.le_of_ble_eq_true rfl) dX7_leftOver_4 (fun v4 e9 => c_X7_roots _ _ v4 e9) h (fun v4 h => ?_) rfl
  refine xx_aload_n C 8 rfl 0 dX7_leftOver_7 rfl rfl ?_
  refine xx_iconst C 9 rfl dX7_leftOver_8 ?_
  refine xx_cVip (As := [.int (iI 1)]) (st := [.int (iI v4), .ref (ad 136)]) (o := 136) C 12 rfl (by decide) (ceX_136 _ _ _) rfl rfl ca_X7_rootsByRite cv_X7_rootsByRite w_679 rfl ⟨Nat.le_of_ble_eq_true rfl, Nat.le_of_ble_eq_true rfl⟩ ⟨Nat.le_of_ble_eq_true rfl, Nat.le_of_ble_eq_true rfl⟩ (Nat.le_of_ble_eq_true rfl) dX7_leftOver_9 (fun v9 e9 => c_X7_rootsByRite _ _ v9 e9) h (fun v9 h => ?_) rfl
  refine xx_ior C 13 rfl dX7_leftOver_12 ?_
  refine xx_cVip (As := [.int (iI (or_ v4 v9))]) (st := []) (o := 136) C 16 rfl (by decide) (ceX_136 _ _ _) rfl rfl ca_X7_reachFrom cv_X7_reachFrom w_688 rfl ⟨Nat.le_of_ble_eq_true rfl, Nat.le_of_ble_eq_true rfl⟩ ⟨Nat.le_of_ble_eq_true rfl, Nat.le_of_ble_eq_true rfl⟩ (Nat.le_of_ble_eq_true rfl) dX7_leftOver_13 (fun v13 e9 => c_X7_reachFrom _ _ v13 e9) h (fun v13 h => ?_) rfl
  refine xx_istore_n (lv1 := [(1, .int (iI v13)), (0, .ref (ad 136))]) C 17 rfl (by decide) dX7_leftOver_16 rfl rfl ?_
  refine xx_iconst C 18 rfl dX7_leftOver_17 ?_
  refine xx_istore_n (lv1 := [(2, .int (iI 0)), (1, .int (iI v13)), (0, .ref (ad 136))]) C 19 rfl (by decide) dX7_leftOver_18 rfl rfl ?_
  refine xx_iconst C 20 rfl dX7_leftOver_19 ?_
  refine xx_istore_n (lv1 := [(3, .int (iI 0)), (2, .int (iI 0)), (1, .int (iI v13)), (0, .ref (ad 136))]) C 21 rfl (by decide) dX7_leftOver_20 rfl rfl ?_
  have L21 : ∀ (fu21 : Nat) (x2_21 : Int) (x3_21 : Int), f_X7_leftOver_L21 v13 μ fu21 x2_21 x3_21 = some a → wx_ G X 151 ad (ceX G ad) μ 0 0 21 [(0, .ref (ad 136)), (1, .int (iI v13)), (2, .int (iI x2_21)), (3, .int (iI x3_21))] [] := by
    intro fu21
    induction fu21 with
    | zero => intro x2_21 x3_21 h; exact nn_ h
    | succ fu21 K21 =>
      intro x2_21 x3_21 h
      rw [f_X7_leftOver_L21] at h
      generalize f_X7_leftOver_L21 v13 μ fu21 = R21 at K21 h
      refine xx_iload_n C 22 rfl 3 dX7_leftOver_21 rfl rfl ?_
      refine xx_bipush C 24 rfl dX7_leftOver_22 (by decide) ?_
      refine xx_icmp_ge (tgt := 59) C 27 rfl dX7_leftOver_24 (by decide) h (fun h => ?_) (fun h => ?_)
      · refine xx_iload_n C 60 rfl 2 dX7_leftOver_59 rfl rfl ?_
        exact xx_iretp C E rfl ⟨Nat.le_of_ble_eq_true rfl, Nat.le_of_ble_eq_true rfl⟩ dX7_leftOver_60 h
      · refine xx_aload_n C 28 rfl 0 dX7_leftOver_27 rfl rfl ?_
        refine xx_getr (fi := 0) C 31 rfl (by decide) (ceX_136 _ _ _) rfl in_X7 (by decide) rfl rfl w_278 dX7_leftOver_28 ?_
        refine xx_iload_n C 32 rfl 3 dX7_leftOver_31 rfl rfl ?_
        refine xx_cVip (As := [.int (iI x3_21)]) (st := []) (o := 0) C 35 rfl (by decide) (ceX_0 _ _ _) rfl rfl ca_X2_hasUrn cv_X2_hasUrn w_683 rfl ⟨Nat.le_of_ble_eq_true rfl, Nat.le_of_ble_eq_true rfl⟩ ⟨Nat.le_of_ble_eq_true rfl, Nat.le_of_ble_eq_true rfl⟩ (Nat.le_of_ble_eq_true rfl) dX7_leftOver_32 (fun v32 e9 => c_X2_hasUrn _ _ v32 e9) h (fun v32 h => ?_) rfl
        refine jn_r (fun J => ∀ (x2_53 : Int), J x2_53 = some a → wx_ G X 151 ad (ceX G ad) μ 0 0 53 [(0, .ref (ad 136)), (1, .int (iI v13)), (2, .int (iI x2_53)), (3, .int (iI x3_21))] []) h (fun x2_53 h => ?_) (fun J53 K53 h => ?_)
        · refine xx_iincn C 56 rfl 3 (by decide) dX7_leftOver_53 rfl h (fun n53 h => ?_)
          refine xx_lv (lv1 := [(3, .int (iI n53)), (0, .ref (ad 136)), (1, .int (iI v13)), (2, .int (iI x2_53))]) rfl ?_
          refine xx_goto C 21 dX7_leftOver_56 (by decide) ?_
          refine xx_sub [1, 2, 3, 0] rfl ?_
          exact K21 x2_53 n53 h
        · refine xx_if_eq (tgt := 53) C 38 rfl dX7_leftOver_35 (by decide) h (fun h => ?_) (fun h => ?_)
          · exact K53 x2_21 h
          · refine xx_iload_n C 39 rfl 1 dX7_leftOver_38 rfl rfl ?_
            refine xx_iload_n C 40 rfl 3 dX7_leftOver_39 rfl rfl ?_
            refine xx_cSip (As := [.int (iI v13), .int (iI x3_21)]) (st := []) C 43 rfl  ca_X7_isIn cs_X7_isIn w_696 rfl ⟨Nat.le_of_ble_eq_true rfl, Nat.le_of_ble_eq_true rfl⟩ ⟨Nat.le_of_ble_eq_true rfl, Nat.le_of_ble_eq_true rfl⟩ (Nat.le_of_ble_eq_true rfl) dX7_leftOver_40 (fun v40 e9 => c_X7_isIn _ _ _ v40 e9) h (fun v40 h => ?_) rfl
            refine xx_if_ne (tgt := 53) C 46 rfl dX7_leftOver_43 (by decide) h (fun h => ?_) (fun h => ?_)
            · exact K53 x2_21 h
            · refine xx_iload_n C 47 rfl 2 dX7_leftOver_46 rfl rfl ?_
              refine xx_iload_n C 48 rfl 3 dX7_leftOver_47 rfl rfl ?_
              refine xx_cSip (As := [.int (iI x3_21)]) (st := [.int (iI x2_21)]) C 51 rfl  ca_X7_bit cs_X7_bit w_684 rfl ⟨Nat.le_of_ble_eq_true rfl, Nat.le_of_ble_eq_true rfl⟩ ⟨Nat.le_of_ble_eq_true rfl, Nat.le_of_ble_eq_true rfl⟩ (Nat.le_of_ble_eq_true rfl) dX7_leftOver_48 (fun v48 e9 => c_X7_bit _ _ v48 e9) h (fun v48 h => ?_) rfl
              refine xx_ior C 52 rfl dX7_leftOver_51 ?_
              refine xx_nm C h (fun n52 h => ?_)
              refine xx_istore_n (lv1 := [(2, .int (iI n52)), (0, .ref (ad 136)), (1, .int (iI v13)), (3, .int (iI x3_21))]) C 53 rfl (by decide) dX7_leftOver_52 rfl rfl ?_
              refine xx_sub [1, 2, 0, 3] rfl ?_
              exact K53 n52 h
  refine xx_sub [3, 2, 1, 0] rfl ?_
  exact L21 _ _ _ h

def f_X7_weighAll_L2  : Nat → Int → mu_T → Option mu_T
  | 0, _, _ => none
  | fu2 + 1, x1_2, μ2 => lt_ x1_2 24
      (bd_ (f_X2_holdersOf μ2 x1_2) (fun v13 => bd_ (f_X2_threadsFrom μ2 x1_2) (fun v22 => bd_ (f_X2_hasUrn μ2 x1_2) (fun v36 => jn_ (φ := Int → Option mu_T) (fun s0_59 => wr_ μ2 137 24 x1_2 s0_59 (fun μ59 => nm_ (x1_2 + 1) (fun n60 => (f_X7_weighAll_L2 fu2) n60 μ59)))
      (fun J59 => eq_ v36 0
      (J59 0)
      (J59 (((((v13 * 5) + v22) * 24) + 24) - x1_2)))))))
      (some μ2)
def f_X7_weighAll (μ : mu_T)  : Option mu_T :=
  f_X7_weighAll_L2 20000 0 μ
set_option maxHeartbeats 4000000 in
set_option maxRecDepth 100000 in
theorem c_X7_weighAll {G : gp_} {ad : Nat → Nat} (μ : mu_T)  (μr : mu_T) (h : f_X7_weighAll μ  = some μr) : mv_ yX7_weighAll cX7_weighAll 4 ({ frames := 3, cells := 0, slots := 0, locals := 65 } : Room) G 151 ad (ceX G ad) [.ref (ad 136)] μ μr := by
  refine mv_in (own := "UrnHeap$Paths") (lv := [(0, .ref (ad 136))]) (by decide) rfl rfl (Nat.le_of_ble_eq_true rfl) (fun X C E => ?_)
  unfold f_X7_weighAll at h
  refine xx_iconst C 1 rfl dX7_weighAll_0 ?_
  refine xx_istore_n (lv1 := [(1, .int (iI 0)), (0, .ref (ad 136))]) C 2 rfl (by decide) dX7_weighAll_1 rfl rfl ?_
  have L2 : ∀ (fu2 : Nat) (x1_2 : Int) (μ2 : mu_T), f_X7_weighAll_L2 fu2 x1_2 μ2 = some μr → wx_ G X 151 ad (ceX G ad) μ2 0 0 2 [(0, .ref (ad 136)), (1, .int (iI x1_2))] [] := by
    intro fu2
    induction fu2 with
    | zero => intro x1_2 μ2 h; exact nn_ h
    | succ fu2 K2 =>
      intro x1_2 μ2 h
      rw [f_X7_weighAll_L2] at h
      generalize f_X7_weighAll_L2 fu2 = R2 at K2 h
      refine xx_iload_n C 3 rfl 1 dX7_weighAll_2 rfl rfl ?_
      refine xx_bipush C 5 rfl dX7_weighAll_3 (by decide) ?_
      refine xx_icmp_ge (tgt := 66) C 8 rfl dX7_weighAll_5 (by decide) h (fun h => ?_) (fun h => ?_)
      · exact xx_vret C E rfl ⟨Nat.le_of_ble_eq_true rfl, Nat.le_of_ble_eq_true rfl⟩ dX7_weighAll_66 h
      · refine xx_aload_n C 9 rfl 0 dX7_weighAll_8 rfl rfl ?_
        refine xx_getr (fi := 0) C 12 rfl (by decide) (ceX_136 _ _ _) rfl in_X7 (by decide) rfl rfl w_278 dX7_weighAll_9 ?_
        refine xx_iload_n C 13 rfl 1 dX7_weighAll_12 rfl rfl ?_
        refine xx_cVip (As := [.int (iI x1_2)]) (st := []) (o := 0) C 16 rfl (by decide) (ceX_0 _ _ _) rfl rfl ca_X2_holdersOf cv_X2_holdersOf w_763 rfl ⟨Nat.le_of_ble_eq_true rfl, Nat.le_of_ble_eq_true rfl⟩ ⟨Nat.le_of_ble_eq_true rfl, Nat.le_of_ble_eq_true rfl⟩ (Nat.le_of_ble_eq_true rfl) dX7_weighAll_13 (fun v13 e9 => c_X2_holdersOf _ _ v13 e9) h (fun v13 h => ?_) rfl
        refine xx_istore_n (lv1 := [(2, .int (iI v13)), (0, .ref (ad 136)), (1, .int (iI x1_2))]) C 17 rfl (by decide) dX7_weighAll_16 rfl rfl ?_
        refine xx_aload_n C 18 rfl 1 dX7_weighAll_17 rfl rfl ?_
        refine xx_getr (fi := 0) C 21 rfl (by decide) (ceX_136 _ _ _) rfl in_X7 (by decide) rfl rfl w_278 dX7_weighAll_18 ?_
        refine xx_iload_n C 22 rfl 2 dX7_weighAll_21 rfl rfl ?_
        refine xx_cVip (As := [.int (iI x1_2)]) (st := []) (o := 0) C 25 rfl (by decide) (ceX_0 _ _ _) rfl rfl ca_X2_threadsFrom cv_X2_threadsFrom w_764 rfl ⟨Nat.le_of_ble_eq_true rfl, Nat.le_of_ble_eq_true rfl⟩ ⟨Nat.le_of_ble_eq_true rfl, Nat.le_of_ble_eq_true rfl⟩ (Nat.le_of_ble_eq_true rfl) dX7_weighAll_22 (fun v22 e9 => c_X2_threadsFrom _ _ v22 e9) h (fun v22 h => ?_) rfl
        refine xx_istore_n (lv1 := [(3, .int (iI v22)), (2, .int (iI v13)), (0, .ref (ad 136)), (1, .int (iI x1_2))]) C 26 rfl (by decide) dX7_weighAll_25 rfl rfl ?_
        refine xx_aload_n C 27 rfl 2 dX7_weighAll_26 rfl rfl ?_
        refine xx_getr (fi := 1) C 30 rfl (by decide) (ceX_136 _ _ _) rfl in_X7 (by decide) rfl rfl w_279 dX7_weighAll_27 ?_
        refine xx_iload_n C 31 rfl 3 dX7_weighAll_30 rfl rfl ?_
        refine xx_aload_n C 32 rfl 2 dX7_weighAll_31 rfl rfl ?_
        refine xx_getr (fi := 0) C 35 rfl (by decide) (ceX_136 _ _ _) rfl in_X7 (by decide) rfl rfl w_278 dX7_weighAll_32 ?_
        refine xx_iload_n C 36 rfl 3 dX7_weighAll_35 rfl rfl ?_
        refine xx_cVip (As := [.int (iI x1_2)]) (st := [.int (iI x1_2), .ref (ad 137)]) (o := 0) C 39 rfl (by decide) (ceX_0 _ _ _) rfl rfl ca_X2_hasUrn cv_X2_hasUrn w_683 rfl ⟨Nat.le_of_ble_eq_true rfl, Nat.le_of_ble_eq_true rfl⟩ ⟨Nat.le_of_ble_eq_true rfl, Nat.le_of_ble_eq_true rfl⟩ (Nat.le_of_ble_eq_true rfl) dX7_weighAll_36 (fun v36 e9 => c_X2_hasUrn _ _ v36 e9) h (fun v36 h => ?_) rfl
        refine jn_r (fun J => ∀ (s0_59 : Int), J s0_59 = some μr → wx_ G X 151 ad (ceX G ad) μ2 0 0 59 [(0, .ref (ad 136)), (1, .int (iI x1_2))] [.int (iI s0_59), .int (iI x1_2), .ref (ad 137)]) h (fun s0_59 h => ?_) (fun J59 K59 h => ?_)
        · refine xx_iastore C 60 rfl (by decide) (fun row => ceX_137 _ _ row) (by decide) dX7_weighAll_59 h (fun μ59 h => ?_)
          refine xx_iincn C 63 rfl 1 (by decide) dX7_weighAll_60 rfl h (fun n60 h => ?_)
          refine xx_lv (lv1 := [(1, .int (iI n60)), (0, .ref (ad 136))]) rfl ?_
          refine xx_goto C 2 dX7_weighAll_63 (by decide) ?_
          refine xx_sub [1, 0] rfl ?_
          exact K2 n60 μ59 h
        · refine xx_if_eq (tgt := 58) C 42 rfl dX7_weighAll_39 (by decide) h (fun h => ?_) (fun h => ?_)
          · refine xx_iconst C 59 rfl dX7_weighAll_58 ?_
            refine xx_sub [2, 3] rfl ?_
            exact K59 0 h
          · refine xx_iload_n C 43 rfl 1 dX7_weighAll_42 rfl rfl ?_
            refine xx_iconst C 44 rfl dX7_weighAll_43 ?_
            refine xx_imul C 45 rfl dX7_weighAll_44 ?_
            refine xx_iload_n C 46 rfl 0 dX7_weighAll_45 rfl rfl ?_
            refine xx_iadd C 47 rfl dX7_weighAll_46 ?_
            refine xx_bipush C 49 rfl dX7_weighAll_47 (by decide) ?_
            refine xx_imul C 50 rfl dX7_weighAll_49 ?_
            refine xx_bipush C 52 rfl dX7_weighAll_50 (by decide) ?_
            refine xx_iadd C 53 rfl dX7_weighAll_52 ?_
            refine xx_iload_n C 54 rfl 3 dX7_weighAll_53 rfl rfl ?_
            refine xx_isub C 55 rfl dX7_weighAll_54 ?_
            refine xx_goto C 59 dX7_weighAll_55 (by decide) ?_
            refine xx_sub [2, 3] rfl ?_
            exact K59 (((((v13 * 5) + v22) * 24) + 24) - x1_2) h
  refine xx_sub [1, 0] rfl ?_
  exact L2 _ _ _ h

def f_X7_heavierThan_L14 (a1 : Int) (μ : mu_T) : Nat → Int → Int → Option Int
  | 0, _, _ => none
  | fu14 + 1, x2_14, x5_14 => lt_ x5_14 24
      (rd_ μ 137 24 x5_14 (fun v24 => jn_ (φ := Int → Option Int) (fun x2_36 => nm_ (x5_14 + 1) (fun n36 => (f_X7_heavierThan_L14 a1 μ fu14) x2_36 n36))
      (fun J36 => lt_ a1 v24
      (nm_ (x2_14 + 1) (fun n33 => J36 n33))
      (J36 x2_14))))
      (some x2_14)
def f_X7_heavierThan (μ : mu_T) (a1 : Int) : Option Int :=
  f_X7_heavierThan_L14 a1 μ 20000 0 0
set_option maxHeartbeats 4000000 in
set_option maxRecDepth 100000 in
theorem c_X7_heavierThan {G : gp_} {ad : Nat → Nat} (μ : mu_T) (a1 : Int) (a : Int) (h : f_X7_heavierThan μ a1 = some a) : mi_ yX7_heavierThan cX7_heavierThan 7 (some .int) ({ frames := 0, cells := 0, slots := 0, locals := 0 } : Room) G 151 ad (ceX G ad) [.ref (ad 136), .int (iI a1)] μ a μ := by
  refine mi_in (own := "UrnHeap$Paths") (lv := [(0, .ref (ad 136)), (1, .int (iI a1))]) (by decide) rfl rfl (Nat.le_of_ble_eq_true rfl) (fun X C E => ?_)
  unfold f_X7_heavierThan at h
  refine xx_iconst C 1 rfl dX7_heavierThan_0 ?_
  refine xx_istore_n (lv1 := [(2, .int (iI 0)), (0, .ref (ad 136)), (1, .int (iI a1))]) C 2 rfl (by decide) dX7_heavierThan_1 rfl rfl ?_
  refine xx_aload_n C 3 rfl 1 dX7_heavierThan_2 rfl rfl ?_
  refine xx_getr (fi := 1) C 6 rfl (by decide) (ceX_136 _ _ _) rfl in_X7 (by decide) rfl rfl w_279 dX7_heavierThan_3 ?_
  refine xx_astore_n (lv1 := [(3, .ref (ad 137)), (2, .int (iI 0)), (0, .ref (ad 136)), (1, .int (iI a1))]) C 7 rfl (by decide) dX7_heavierThan_6 rfl rfl ?_
  refine xx_aload_n C 8 rfl 0 dX7_heavierThan_7 rfl rfl ?_
  refine xx_alen (nA := 24) C 9 rfl (by decide) (fun row => ceX_137 _ _ row) dX7_heavierThan_8 ?_
  refine xx_istore (lv1 := [(4, .int (iI 24)), (3, .ref (ad 137)), (2, .int (iI 0)), (0, .ref (ad 136)), (1, .int (iI a1))]) C 11 rfl (by decide) dX7_heavierThan_9 rfl ?_
  refine xx_iconst C 12 rfl dX7_heavierThan_11 ?_
  refine xx_istore (lv1 := [(5, .int (iI 0)), (4, .int (iI 24)), (3, .ref (ad 137)), (2, .int (iI 0)), (0, .ref (ad 136)), (1, .int (iI a1))]) C 14 rfl (by decide) dX7_heavierThan_12 rfl ?_
  have L14 : ∀ (fu14 : Nat) (x2_14 : Int) (x5_14 : Int), f_X7_heavierThan_L14 a1 μ fu14 x2_14 x5_14 = some a → wx_ G X 151 ad (ceX G ad) μ 0 0 14 [(1, .int (iI a1)), (2, .int (iI x2_14)), (3, .ref (ad 137)), (4, .int (iI 24)), (5, .int (iI x5_14))] [] := by
    intro fu14
    induction fu14 with
    | zero => intro x2_14 x5_14 h; exact nn_ h
    | succ fu14 K14 =>
      intro x2_14 x5_14 h
      rw [f_X7_heavierThan_L14] at h
      generalize f_X7_heavierThan_L14 a1 μ fu14 = R14 at K14 h
      refine xx_iload C 16 rfl 4 dX7_heavierThan_14 rfl ?_
      refine xx_iload C 18 rfl 3 dX7_heavierThan_16 rfl ?_
      refine xx_icmp_ge (tgt := 42) C 21 rfl dX7_heavierThan_18 (by decide) h (fun h => ?_) (fun h => ?_)
      · refine xx_iload_n C 43 rfl 1 dX7_heavierThan_42 rfl rfl ?_
        exact xx_iretp C E rfl ⟨Nat.le_of_ble_eq_true rfl, Nat.le_of_ble_eq_true rfl⟩ dX7_heavierThan_43 h
      · refine xx_aload_n C 22 rfl 2 dX7_heavierThan_21 rfl rfl ?_
        refine xx_iload C 24 rfl 4 dX7_heavierThan_22 rfl ?_
        refine xx_iaload C 25 rfl (by decide) (fun row => ceX_137 _ _ row) (by decide) dX7_heavierThan_24 h (fun v24 h => ?_)
        refine xx_istore (lv1 := [(6, .int (iI v24)), (1, .int (iI a1)), (2, .int (iI x2_14)), (3, .ref (ad 137)), (4, .int (iI 24)), (5, .int (iI x5_14))]) C 27 rfl (by decide) dX7_heavierThan_25 rfl ?_
        refine xx_iload C 29 rfl 0 dX7_heavierThan_27 rfl ?_
        refine xx_iload_n C 30 rfl 1 dX7_heavierThan_29 rfl rfl ?_
        refine jn_r (fun J => ∀ (x2_36 : Int), J x2_36 = some a → wx_ G X 151 ad (ceX G ad) μ 0 0 36 [(1, .int (iI a1)), (2, .int (iI x2_36)), (3, .ref (ad 137)), (4, .int (iI 24)), (5, .int (iI x5_14))] []) h (fun x2_36 h => ?_) (fun J36 K36 h => ?_)
        · refine xx_iincn C 39 rfl 4 (by decide) dX7_heavierThan_36 rfl h (fun n36 h => ?_)
          refine xx_lv (lv1 := [(5, .int (iI n36)), (1, .int (iI a1)), (2, .int (iI x2_36)), (3, .ref (ad 137)), (4, .int (iI 24))]) rfl ?_
          refine xx_goto C 14 dX7_heavierThan_39 (by decide) ?_
          refine xx_sub [1, 2, 3, 4, 0] rfl ?_
          exact K14 x2_36 n36 h
        · refine xx_icmp_le (tgt := 36) C 33 rfl dX7_heavierThan_30 (by decide) h (fun h => ?_) (fun h => ?_)
          · refine xx_sub [1, 2, 3, 4, 5] rfl ?_
            exact K36 x2_14 h
          · refine xx_iincn C 36 rfl 2 (by decide) dX7_heavierThan_33 rfl h (fun n33 h => ?_)
            refine xx_lv (lv1 := [(2, .int (iI n33)), (6, .int (iI v24)), (1, .int (iI a1)), (3, .ref (ad 137)), (4, .int (iI 24)), (5, .int (iI x5_14))]) rfl ?_
            refine xx_sub [2, 0, 3, 4, 5] rfl ?_
            exact K36 n33 h
  refine xx_sub [5, 3, 2, 1, 0] rfl ?_
  exact L14 _ _ _ h
end
section
theorem dX7_urnAtRank_0 : decode cX7_urnAtRank 0 = .ok (.aload_n 0, 1) := by decide +kernel
theorem dX7_urnAtRank_1 : decode cX7_urnAtRank 1 = .ok (.invokevirtual 62, 3) := by decide +kernel
theorem dX7_urnAtRank_4 : decode cX7_urnAtRank 4 = .ok (.iconst 0, 1) := by decide +kernel
theorem dX7_urnAtRank_5 : decode cX7_urnAtRank 5 = .ok (.istore_n 2, 1) := by decide +kernel
theorem dX7_urnAtRank_6 : decode cX7_urnAtRank 6 = .ok (.iload_n 2, 1) := by decide +kernel
theorem dX7_urnAtRank_7 : decode cX7_urnAtRank 7 = .ok (.bipush 24, 2) := by decide +kernel
theorem dX7_urnAtRank_9 : decode cX7_urnAtRank 9 = .ok (.if_icmp .ge 36, 3) := by decide +kernel
theorem dX7_urnAtRank_12 : decode cX7_urnAtRank 12 = .ok (.aload_n 0, 1) := by decide +kernel
theorem dX7_urnAtRank_13 : decode cX7_urnAtRank 13 = .ok (.getfield 15, 3) := by decide +kernel
theorem dX7_urnAtRank_16 : decode cX7_urnAtRank 16 = .ok (.iload_n 2, 1) := by decide +kernel
theorem dX7_urnAtRank_17 : decode cX7_urnAtRank 17 = .ok (.invokevirtual 58, 3) := by decide +kernel
theorem dX7_urnAtRank_20 : decode cX7_urnAtRank 20 = .ok (.ifCond .eq 19, 3) := by decide +kernel
theorem dX7_urnAtRank_23 : decode cX7_urnAtRank 23 = .ok (.aload_n 0, 1) := by decide +kernel
theorem dX7_urnAtRank_24 : decode cX7_urnAtRank 24 = .ok (.aload_n 0, 1) := by decide +kernel
theorem dX7_urnAtRank_25 : decode cX7_urnAtRank 25 = .ok (.getfield 9, 3) := by decide +kernel
theorem dX7_urnAtRank_28 : decode cX7_urnAtRank 28 = .ok (.iload_n 2, 1) := by decide +kernel
theorem dX7_urnAtRank_29 : decode cX7_urnAtRank 29 = .ok (.iaload, 1) := by decide +kernel
theorem dX7_urnAtRank_30 : decode cX7_urnAtRank 30 = .ok (.invokevirtual 65, 3) := by decide +kernel
theorem dX7_urnAtRank_33 : decode cX7_urnAtRank 33 = .ok (.iload_n 1, 1) := by decide +kernel
theorem dX7_urnAtRank_34 : decode cX7_urnAtRank 34 = .ok (.if_icmp .ne 5, 3) := by decide +kernel
theorem dX7_urnAtRank_37 : decode cX7_urnAtRank 37 = .ok (.iload_n 2, 1) := by decide +kernel
theorem dX7_urnAtRank_38 : decode cX7_urnAtRank 38 = .ok (.ireturn, 1) := by decide +kernel
theorem dX7_urnAtRank_39 : decode cX7_urnAtRank 39 = .ok (.iinc 2 1, 3) := by decide +kernel
theorem dX7_urnAtRank_42 : decode cX7_urnAtRank 42 = .ok (.goto (-36), 3) := by decide +kernel
theorem dX7_urnAtRank_45 : decode cX7_urnAtRank 45 = .ok (.bipush (-11), 2) := by decide +kernel
theorem dX7_urnAtRank_47 : decode cX7_urnAtRank 47 = .ok (.ireturn, 1) := by decide +kernel
theorem dX9_takeFirst_0 : decode cX9_takeFirst 0 = .ok (.aload_n 0, 1) := by decide +kernel
theorem dX9_takeFirst_1 : decode cX9_takeFirst 1 = .ok (.getfield 15, 3) := by decide +kernel
theorem dX9_takeFirst_4 : decode cX9_takeFirst 4 = .ok (.ifCond .gt 6, 3) := by decide +kernel
theorem dX9_takeFirst_7 : decode cX9_takeFirst 7 = .ok (.bipush (-15), 2) := by decide +kernel
theorem dX9_takeFirst_9 : decode cX9_takeFirst 9 = .ok (.ireturn, 1) := by decide +kernel
theorem dX9_takeFirst_10 : decode cX9_takeFirst 10 = .ok (.aload_n 0, 1) := by decide +kernel
theorem dX9_takeFirst_11 : decode cX9_takeFirst 11 = .ok (.getfield 9, 3) := by decide +kernel
theorem dX9_takeFirst_14 : decode cX9_takeFirst 14 = .ok (.iconst 0, 1) := by decide +kernel
theorem dX9_takeFirst_15 : decode cX9_takeFirst 15 = .ok (.iaload, 1) := by decide +kernel
theorem dX9_takeFirst_16 : decode cX9_takeFirst 16 = .ok (.istore_n 1, 1) := by decide +kernel
theorem dX9_takeFirst_17 : decode cX9_takeFirst 17 = .ok (.aload_n 0, 1) := by decide +kernel
theorem dX9_takeFirst_18 : decode cX9_takeFirst 18 = .ok (.dup, 1) := by decide +kernel
theorem dX9_takeFirst_19 : decode cX9_takeFirst 19 = .ok (.getfield 15, 3) := by decide +kernel
theorem dX9_takeFirst_22 : decode cX9_takeFirst 22 = .ok (.iconst 1, 1) := by decide +kernel
theorem dX9_takeFirst_23 : decode cX9_takeFirst 23 = .ok (.isub, 1) := by decide +kernel
theorem dX9_takeFirst_24 : decode cX9_takeFirst 24 = .ok (.putfield 15, 3) := by decide +kernel
theorem dX9_takeFirst_27 : decode cX9_takeFirst 27 = .ok (.aload_n 0, 1) := by decide +kernel
theorem dX9_takeFirst_28 : decode cX9_takeFirst 28 = .ok (.getfield 9, 3) := by decide +kernel
theorem dX9_takeFirst_31 : decode cX9_takeFirst 31 = .ok (.iconst 1, 1) := by decide +kernel
theorem dX9_takeFirst_32 : decode cX9_takeFirst 32 = .ok (.aload_n 0, 1) := by decide +kernel
theorem dX9_takeFirst_33 : decode cX9_takeFirst 33 = .ok (.getfield 9, 3) := by decide +kernel
theorem dX9_takeFirst_36 : decode cX9_takeFirst 36 = .ok (.iconst 0, 1) := by decide +kernel
theorem dX9_takeFirst_37 : decode cX9_takeFirst 37 = .ok (.aload_n 0, 1) := by decide +kernel
theorem dX9_takeFirst_38 : decode cX9_takeFirst 38 = .ok (.getfield 15, 3) := by decide +kernel
theorem dX9_takeFirst_41 : decode cX9_takeFirst 41 = .ok (.invokestatic 19, 3) := by decide +kernel
theorem dX9_takeFirst_44 : decode cX9_takeFirst 44 = .ok (.iload_n 1, 1) := by decide +kernel
theorem dX9_takeFirst_45 : decode cX9_takeFirst 45 = .ok (.ireturn, 1) := by decide +kernel
theorem dX9_at_0 : decode cX9_at 0 = .ok (.iload_n 1, 1) := by decide +kernel
theorem dX9_at_1 : decode cX9_at 1 = .ok (.ifCond .lt 29, 3) := by decide +kernel
theorem dX9_at_4 : decode cX9_at 4 = .ok (.iload_n 1, 1) := by decide +kernel
theorem dX9_at_5 : decode cX9_at 5 = .ok (.aload_n 0, 1) := by decide +kernel
theorem dX9_at_6 : decode cX9_at 6 = .ok (.getfield 15, 3) := by decide +kernel
theorem dX9_at_9 : decode cX9_at 9 = .ok (.if_icmp .ge 21, 3) := by decide +kernel
theorem dX9_at_12 : decode cX9_at 12 = .ok (.iload_n 1, 1) := by decide +kernel
theorem dX9_at_13 : decode cX9_at 13 = .ok (.aload_n 0, 1) := by decide +kernel
theorem dX9_at_14 : decode cX9_at 14 = .ok (.getfield 9, 3) := by decide +kernel
theorem dX9_at_17 : decode cX9_at 17 = .ok (.arraylength, 1) := by decide +kernel
theorem dX9_at_18 : decode cX9_at 18 = .ok (.if_icmp .ge 12, 3) := by decide +kernel
theorem dX9_at_21 : decode cX9_at 21 = .ok (.aload_n 0, 1) := by decide +kernel
theorem dX9_at_22 : decode cX9_at 22 = .ok (.getfield 9, 3) := by decide +kernel
theorem dX9_at_25 : decode cX9_at 25 = .ok (.iload_n 1, 1) := by decide +kernel
theorem dX9_at_26 : decode cX9_at 26 = .ok (.iaload, 1) := by decide +kernel
theorem dX9_at_27 : decode cX9_at 27 = .ok (.goto 5, 3) := by decide +kernel
theorem dX9_at_30 : decode cX9_at 30 = .ok (.bipush (-11), 2) := by decide +kernel
theorem dX9_at_32 : decode cX9_at 32 = .ok (.ireturn, 1) := by decide +kernel
theorem dX10_markRoots_0 : decode cX10_markRoots 0 = .ok (.aload_n 0, 1) := by decide +kernel
theorem dX10_markRoots_1 : decode cX10_markRoots 1 = .ok (.getfield 9, 3) := by decide +kernel
theorem dX10_markRoots_4 : decode cX10_markRoots 4 = .ok (.iconst 1, 1) := by decide +kernel
theorem dX10_markRoots_5 : decode cX10_markRoots 5 = .ok (.putfield 19, 3) := by decide +kernel
theorem dX10_markRoots_8 : decode cX10_markRoots 8 = .ok (.iconst 0, 1) := by decide +kernel
theorem dX10_markRoots_9 : decode cX10_markRoots 9 = .ok (.istore_n 1, 1) := by decide +kernel
theorem dX10_markRoots_10 : decode cX10_markRoots 10 = .ok (.iload_n 1, 1) := by decide +kernel
theorem dX10_markRoots_11 : decode cX10_markRoots 11 = .ok (.bipush 6, 2) := by decide +kernel
theorem dX10_markRoots_13 : decode cX10_markRoots 13 = .ok (.if_icmp .ge 25, 3) := by decide +kernel
theorem dX10_markRoots_16 : decode cX10_markRoots 16 = .ok (.aload_n 0, 1) := by decide +kernel
theorem dX10_markRoots_17 : decode cX10_markRoots 17 = .ok (.getfield 9, 3) := by decide +kernel
theorem dX10_markRoots_20 : decode cX10_markRoots 20 = .ok (.aload_n 0, 1) := by decide +kernel
theorem dX10_markRoots_21 : decode cX10_markRoots 21 = .ok (.getfield 9, 3) := by decide +kernel
theorem dX10_markRoots_24 : decode cX10_markRoots 24 = .ok (.getfield 71, 3) := by decide +kernel
theorem dX10_markRoots_27 : decode cX10_markRoots 27 = .ok (.iload_n 1, 1) := by decide +kernel
theorem dX10_markRoots_28 : decode cX10_markRoots 28 = .ok (.iaload, 1) := by decide +kernel
theorem dX10_markRoots_29 : decode cX10_markRoots 29 = .ok (.invokevirtual 74, 3) := by decide +kernel
theorem dX10_markRoots_32 : decode cX10_markRoots 32 = .ok (.iinc 1 1, 3) := by decide +kernel
theorem dX10_markRoots_35 : decode cX10_markRoots 35 = .ok (.goto (-25), 3) := by decide +kernel
theorem dX10_markRoots_38 : decode cX10_markRoots 38 = .ok (.iconst 0, 1) := by decide +kernel
theorem dX10_markRoots_39 : decode cX10_markRoots 39 = .ok (.istore_n 1, 1) := by decide +kernel
theorem dX10_markRoots_40 : decode cX10_markRoots 40 = .ok (.iload_n 1, 1) := by decide +kernel
theorem dX10_markRoots_41 : decode cX10_markRoots 41 = .ok (.aload_n 0, 1) := by decide +kernel
theorem dX10_markRoots_42 : decode cX10_markRoots 42 = .ok (.getfield 9, 3) := by decide +kernel
theorem dX10_markRoots_45 : decode cX10_markRoots 45 = .ok (.getfield 53, 3) := by decide +kernel
theorem dX10_markRoots_48 : decode cX10_markRoots 48 = .ok (.getfield 38, 3) := by decide +kernel
theorem dX10_markRoots_51 : decode cX10_markRoots 51 = .ok (.if_icmp .ge 27, 3) := by decide +kernel
theorem dX10_markRoots_54 : decode cX10_markRoots 54 = .ok (.aload_n 0, 1) := by decide +kernel
theorem dX10_markRoots_55 : decode cX10_markRoots 55 = .ok (.getfield 9, 3) := by decide +kernel
theorem dX10_markRoots_58 : decode cX10_markRoots 58 = .ok (.aload_n 0, 1) := by decide +kernel
theorem dX10_markRoots_59 : decode cX10_markRoots 59 = .ok (.getfield 9, 3) := by decide +kernel
theorem dX10_markRoots_62 : decode cX10_markRoots 62 = .ok (.getfield 53, 3) := by decide +kernel
theorem dX10_markRoots_65 : decode cX10_markRoots 65 = .ok (.iload_n 1, 1) := by decide +kernel
theorem dX10_markRoots_66 : decode cX10_markRoots 66 = .ok (.invokevirtual 78, 3) := by decide +kernel
theorem dX10_markRoots_69 : decode cX10_markRoots 69 = .ok (.invokevirtual 74, 3) := by decide +kernel
theorem dX10_markRoots_72 : decode cX10_markRoots 72 = .ok (.iinc 1 1, 3) := by decide +kernel
theorem dX10_markRoots_75 : decode cX10_markRoots 75 = .ok (.goto (-35), 3) := by decide +kernel
theorem dX10_markRoots_78 : decode cX10_markRoots 78 = .ok (.return_, 1) := by decide +kernel
theorem dX10_beginRound_0 : decode cX10_beginRound 0 = .ok (.aload_n 0, 1) := by decide +kernel
theorem dX10_beginRound_1 : decode cX10_beginRound 1 = .ok (.getfield 9, 3) := by decide +kernel
theorem dX10_beginRound_4 : decode cX10_beginRound 4 = .ok (.getfield 19, 3) := by decide +kernel
theorem dX10_beginRound_7 : decode cX10_beginRound 7 = .ok (.ifCond .eq 19, 3) := by decide +kernel
theorem dX10_beginRound_10 : decode cX10_beginRound 10 = .ok (.aload_n 0, 1) := by decide +kernel
theorem dX10_beginRound_11 : decode cX10_beginRound 11 = .ok (.getfield 15, 3) := by decide +kernel
theorem dX10_beginRound_14 : decode cX10_beginRound 14 = .ok (.iconst 4, 1) := by decide +kernel
theorem dX10_beginRound_15 : decode cX10_beginRound 15 = .ok (.aload_n 0, 1) := by decide +kernel
theorem dX10_beginRound_16 : decode cX10_beginRound 16 = .ok (.getfield 9, 3) := by decide +kernel
theorem dX10_beginRound_19 : decode cX10_beginRound 19 = .ok (.getfield 19, 3) := by decide +kernel
theorem dX10_beginRound_22 : decode cX10_beginRound 22 = .ok (.invokevirtual 25, 3) := by decide +kernel
theorem dX10_beginRound_25 : decode cX10_beginRound 25 = .ok (.ireturn, 1) := by decide +kernel
theorem dX10_beginRound_26 : decode cX10_beginRound 26 = .ok (.aload_n 0, 1) := by decide +kernel
theorem dX10_beginRound_27 : decode cX10_beginRound 27 = .ok (.invokevirtual 31, 3) := by decide +kernel
theorem dX10_beginRound_30 : decode cX10_beginRound 30 = .ok (.aload_n 0, 1) := by decide +kernel
theorem dX10_beginRound_31 : decode cX10_beginRound 31 = .ok (.getfield 9, 3) := by decide +kernel
theorem dX10_beginRound_34 : decode cX10_beginRound 34 = .ok (.getfield 34, 3) := by decide +kernel
theorem dX10_beginRound_37 : decode cX10_beginRound 37 = .ok (.getfield 38, 3) := by decide +kernel
theorem dX10_beginRound_40 : decode cX10_beginRound 40 = .ok (.ireturn, 1) := by decide +kernel
theorem dX10_makeRitesDue_0 : decode cX10_makeRitesDue 0 = .ok (.iconst 0, 1) := by decide +kernel
theorem dX10_makeRitesDue_1 : decode cX10_makeRitesDue 1 = .ok (.istore_n 1, 1) := by decide +kernel
theorem dX10_makeRitesDue_2 : decode cX10_makeRitesDue 2 = .ok (.iconst 0, 1) := by decide +kernel
theorem dX10_makeRitesDue_3 : decode cX10_makeRitesDue 3 = .ok (.istore_n 2, 1) := by decide +kernel
theorem dX10_makeRitesDue_4 : decode cX10_makeRitesDue 4 = .ok (.iload_n 2, 1) := by decide +kernel
theorem dX10_makeRitesDue_5 : decode cX10_makeRitesDue 5 = .ok (.bipush 24, 2) := by decide +kernel
theorem dX10_makeRitesDue_7 : decode cX10_makeRitesDue 7 = .ok (.if_icmp .ge 64, 3) := by decide +kernel
theorem dX10_makeRitesDue_10 : decode cX10_makeRitesDue 10 = .ok (.aload_n 0, 1) := by decide +kernel
theorem dX10_makeRitesDue_11 : decode cX10_makeRitesDue 11 = .ok (.getfield 9, 3) := by decide +kernel
theorem dX10_makeRitesDue_14 : decode cX10_makeRitesDue 14 = .ok (.iload_n 2, 1) := by decide +kernel
theorem dX10_makeRitesDue_15 : decode cX10_makeRitesDue 15 = .ok (.invokevirtual 103, 3) := by decide +kernel
theorem dX10_makeRitesDue_18 : decode cX10_makeRitesDue 18 = .ok (.ifCond .eq 47, 3) := by decide +kernel
theorem dX10_makeRitesDue_21 : decode cX10_makeRitesDue 21 = .ok (.aload_n 0, 1) := by decide +kernel
theorem dX10_makeRitesDue_22 : decode cX10_makeRitesDue 22 = .ok (.getfield 9, 3) := by decide +kernel
theorem dX10_makeRitesDue_25 : decode cX10_makeRitesDue 25 = .ok (.getfield 67, 3) := by decide +kernel
theorem dX10_makeRitesDue_28 : decode cX10_makeRitesDue 28 = .ok (.iload_n 2, 1) := by decide +kernel
theorem dX10_makeRitesDue_29 : decode cX10_makeRitesDue 29 = .ok (.iaload, 1) := by decide +kernel
theorem dX10_makeRitesDue_30 : decode cX10_makeRitesDue 30 = .ok (.iconst 1, 1) := by decide +kernel
theorem dX10_makeRitesDue_31 : decode cX10_makeRitesDue 31 = .ok (.if_icmp .ne 34, 3) := by decide +kernel
theorem dX10_makeRitesDue_34 : decode cX10_makeRitesDue 34 = .ok (.aload_n 0, 1) := by decide +kernel
theorem dX10_makeRitesDue_35 : decode cX10_makeRitesDue 35 = .ok (.getfield 9, 3) := by decide +kernel
theorem dX10_makeRitesDue_38 : decode cX10_makeRitesDue 38 = .ok (.iload_n 2, 1) := by decide +kernel
theorem dX10_makeRitesDue_39 : decode cX10_makeRitesDue 39 = .ok (.invokevirtual 74, 3) := by decide +kernel
theorem dX10_makeRitesDue_42 : decode cX10_makeRitesDue 42 = .ok (.aload_n 0, 1) := by decide +kernel
theorem dX10_makeRitesDue_43 : decode cX10_makeRitesDue 43 = .ok (.getfield 9, 3) := by decide +kernel
theorem dX10_makeRitesDue_46 : decode cX10_makeRitesDue 46 = .ok (.getfield 67, 3) := by decide +kernel
theorem dX10_makeRitesDue_49 : decode cX10_makeRitesDue 49 = .ok (.iload_n 2, 1) := by decide +kernel
theorem dX10_makeRitesDue_50 : decode cX10_makeRitesDue 50 = .ok (.iconst 2, 1) := by decide +kernel
theorem dX10_makeRitesDue_51 : decode cX10_makeRitesDue 51 = .ok (.iastore, 1) := by decide +kernel
theorem dX10_makeRitesDue_52 : decode cX10_makeRitesDue 52 = .ok (.aload_n 0, 1) := by decide +kernel
theorem dX10_makeRitesDue_53 : decode cX10_makeRitesDue 53 = .ok (.getfield 9, 3) := by decide +kernel
theorem dX10_makeRitesDue_56 : decode cX10_makeRitesDue 56 = .ok (.getfield 53, 3) := by decide +kernel
theorem dX10_makeRitesDue_59 : decode cX10_makeRitesDue 59 = .ok (.iload_n 2, 1) := by decide +kernel
theorem dX10_makeRitesDue_60 : decode cX10_makeRitesDue 60 = .ok (.invokevirtual 106, 3) := by decide +kernel
theorem dX10_makeRitesDue_63 : decode cX10_makeRitesDue 63 = .ok (.iconst 1, 1) := by decide +kernel
theorem dX10_makeRitesDue_64 : decode cX10_makeRitesDue 64 = .ok (.istore_n 1, 1) := by decide +kernel
theorem dX10_makeRitesDue_65 : decode cX10_makeRitesDue 65 = .ok (.iinc 2 1, 3) := by decide +kernel
theorem dX10_makeRitesDue_68 : decode cX10_makeRitesDue 68 = .ok (.goto (-64), 3) := by decide +kernel
theorem dX10_makeRitesDue_71 : decode cX10_makeRitesDue 71 = .ok (.iload_n 1, 1) := by decide +kernel
theorem dX10_makeRitesDue_72 : decode cX10_makeRitesDue 72 = .ok (.ireturn, 1) := by decide +kernel
theorem dX10_beginSweep_0 : decode cX10_beginSweep 0 = .ok (.iconst 0, 1) := by decide +kernel
theorem dX10_beginSweep_1 : decode cX10_beginSweep 1 = .ok (.istore_n 1, 1) := by decide +kernel
theorem dX10_beginSweep_2 : decode cX10_beginSweep 2 = .ok (.iload_n 1, 1) := by decide +kernel
theorem dX10_beginSweep_3 : decode cX10_beginSweep 3 = .ok (.bipush 24, 2) := by decide +kernel
theorem dX10_beginSweep_5 : decode cX10_beginSweep 5 = .ok (.if_icmp .ge 52, 3) := by decide +kernel
theorem dX10_beginSweep_8 : decode cX10_beginSweep 8 = .ok (.aload_n 0, 1) := by decide +kernel
theorem dX10_beginSweep_9 : decode cX10_beginSweep 9 = .ok (.getfield 9, 3) := by decide +kernel
theorem dX10_beginSweep_12 : decode cX10_beginSweep 12 = .ok (.aload_n 0, 1) := by decide +kernel
theorem dX10_beginSweep_13 : decode cX10_beginSweep 13 = .ok (.getfield 9, 3) := by decide +kernel
theorem dX10_beginSweep_16 : decode cX10_beginSweep 16 = .ok (.getfield 109, 3) := by decide +kernel
theorem dX10_beginSweep_19 : decode cX10_beginSweep 19 = .ok (.iload_n 1, 1) := by decide +kernel
theorem dX10_beginSweep_20 : decode cX10_beginSweep 20 = .ok (.iaload, 1) := by decide +kernel
theorem dX10_beginSweep_21 : decode cX10_beginSweep 21 = .ok (.invokevirtual 103, 3) := by decide +kernel
theorem dX10_beginSweep_24 : decode cX10_beginSweep 24 = .ok (.ifCond .eq 27, 3) := by decide +kernel
theorem dX10_beginSweep_27 : decode cX10_beginSweep 27 = .ok (.aload_n 0, 1) := by decide +kernel
theorem dX10_beginSweep_28 : decode cX10_beginSweep 28 = .ok (.getfield 9, 3) := by decide +kernel
theorem dX10_beginSweep_31 : decode cX10_beginSweep 31 = .ok (.getfield 109, 3) := by decide +kernel
theorem dX10_beginSweep_34 : decode cX10_beginSweep 34 = .ok (.iload_n 1, 1) := by decide +kernel
theorem dX10_beginSweep_35 : decode cX10_beginSweep 35 = .ok (.bipush (-15), 2) := by decide +kernel
theorem dX10_beginSweep_37 : decode cX10_beginSweep 37 = .ok (.iastore, 1) := by decide +kernel
theorem dX10_beginSweep_38 : decode cX10_beginSweep 38 = .ok (.aload_n 0, 1) := by decide +kernel
theorem dX10_beginSweep_39 : decode cX10_beginSweep 39 = .ok (.getfield 9, 3) := by decide +kernel
theorem dX10_beginSweep_42 : decode cX10_beginSweep 42 = .ok (.dup, 1) := by decide +kernel
theorem dX10_beginSweep_43 : decode cX10_beginSweep 43 = .ok (.getfield 112, 3) := by decide +kernel
theorem dX10_beginSweep_46 : decode cX10_beginSweep 46 = .ok (.iconst 1, 1) := by decide +kernel
theorem dX10_beginSweep_47 : decode cX10_beginSweep 47 = .ok (.iadd, 1) := by decide +kernel
theorem dX10_beginSweep_48 : decode cX10_beginSweep 48 = .ok (.putfield 112, 3) := by decide +kernel
theorem dX10_beginSweep_51 : decode cX10_beginSweep 51 = .ok (.iinc 1 1, 3) := by decide +kernel
theorem dX10_beginSweep_54 : decode cX10_beginSweep 54 = .ok (.goto (-52), 3) := by decide +kernel
theorem dX10_beginSweep_57 : decode cX10_beginSweep 57 = .ok (.aload_n 0, 1) := by decide +kernel
theorem dX10_beginSweep_58 : decode cX10_beginSweep 58 = .ok (.getfield 9, 3) := by decide +kernel
theorem dX10_beginSweep_61 : decode cX10_beginSweep 61 = .ok (.iconst 2, 1) := by decide +kernel
theorem dX10_beginSweep_62 : decode cX10_beginSweep 62 = .ok (.putfield 19, 3) := by decide +kernel
theorem dX10_beginSweep_65 : decode cX10_beginSweep 65 = .ok (.aload_n 0, 1) := by decide +kernel
theorem dX10_beginSweep_66 : decode cX10_beginSweep 66 = .ok (.getfield 9, 3) := by decide +kernel
theorem dX10_beginSweep_69 : decode cX10_beginSweep 69 = .ok (.iconst 0, 1) := by decide +kernel
theorem dX10_beginSweep_70 : decode cX10_beginSweep 70 = .ok (.putfield 115, 3) := by decide +kernel
theorem dX10_beginSweep_73 : decode cX10_beginSweep 73 = .ok (.return_, 1) := by decide +kernel
theorem dX10_blackenFirst_0 : decode cX10_blackenFirst 0 = .ok (.aload_n 0, 1) := by decide +kernel
theorem dX10_blackenFirst_1 : decode cX10_blackenFirst 1 = .ok (.getfield 9, 3) := by decide +kernel
theorem dX10_blackenFirst_4 : decode cX10_blackenFirst 4 = .ok (.getfield 34, 3) := by decide +kernel
theorem dX10_blackenFirst_7 : decode cX10_blackenFirst 7 = .ok (.invokevirtual 56, 3) := by decide +kernel
theorem dX10_blackenFirst_10 : decode cX10_blackenFirst 10 = .ok (.istore_n 1, 1) := by decide +kernel
theorem dX10_blackenFirst_11 : decode cX10_blackenFirst 11 = .ok (.iload_n 1, 1) := by decide +kernel
theorem dX10_blackenFirst_12 : decode cX10_blackenFirst 12 = .ok (.invokestatic 60, 3) := by decide +kernel
theorem dX10_blackenFirst_15 : decode cX10_blackenFirst 15 = .ok (.ifCond .ne 4, 3) := by decide +kernel
theorem dX10_blackenFirst_18 : decode cX10_blackenFirst 18 = .ok (.return_, 1) := by decide +kernel
theorem dX10_blackenFirst_19 : decode cX10_blackenFirst 19 = .ok (.aload_n 0, 1) := by decide +kernel
theorem dX10_blackenFirst_20 : decode cX10_blackenFirst 20 = .ok (.getfield 9, 3) := by decide +kernel
theorem dX10_blackenFirst_23 : decode cX10_blackenFirst 23 = .ok (.getfield 97, 3) := by decide +kernel
theorem dX10_blackenFirst_26 : decode cX10_blackenFirst 26 = .ok (.iload_n 1, 1) := by decide +kernel
theorem dX10_blackenFirst_27 : decode cX10_blackenFirst 27 = .ok (.iconst 2, 1) := by decide +kernel
theorem dX10_blackenFirst_28 : decode cX10_blackenFirst 28 = .ok (.iastore, 1) := by decide +kernel
theorem dX10_blackenFirst_29 : decode cX10_blackenFirst 29 = .ok (.iconst 0, 1) := by decide +kernel
theorem dX10_blackenFirst_30 : decode cX10_blackenFirst 30 = .ok (.istore_n 2, 1) := by decide +kernel
theorem dX10_blackenFirst_31 : decode cX10_blackenFirst 31 = .ok (.iload_n 2, 1) := by decide +kernel
theorem dX10_blackenFirst_32 : decode cX10_blackenFirst 32 = .ok (.iconst 4, 1) := by decide +kernel
theorem dX10_blackenFirst_33 : decode cX10_blackenFirst 33 = .ok (.if_icmp .ge 25, 3) := by decide +kernel
theorem dX10_blackenFirst_36 : decode cX10_blackenFirst 36 = .ok (.aload_n 0, 1) := by decide +kernel
theorem dX10_blackenFirst_37 : decode cX10_blackenFirst 37 = .ok (.getfield 9, 3) := by decide +kernel
theorem dX10_blackenFirst_40 : decode cX10_blackenFirst 40 = .ok (.aload_n 0, 1) := by decide +kernel
theorem dX10_blackenFirst_41 : decode cX10_blackenFirst 41 = .ok (.getfield 9, 3) := by decide +kernel
theorem dX10_blackenFirst_44 : decode cX10_blackenFirst 44 = .ok (.iload_n 1, 1) := by decide +kernel
theorem dX10_blackenFirst_45 : decode cX10_blackenFirst 45 = .ok (.iload_n 2, 1) := by decide +kernel
theorem dX10_blackenFirst_46 : decode cX10_blackenFirst 46 = .ok (.invokevirtual 100, 3) := by decide +kernel
theorem dX10_blackenFirst_49 : decode cX10_blackenFirst 49 = .ok (.invokevirtual 74, 3) := by decide +kernel
theorem dX10_blackenFirst_52 : decode cX10_blackenFirst 52 = .ok (.iinc 2 1, 3) := by decide +kernel
theorem dX10_blackenFirst_55 : decode cX10_blackenFirst 55 = .ok (.goto (-24), 3) := by decide +kernel
theorem dX10_blackenFirst_58 : decode cX10_blackenFirst 58 = .ok (.return_, 1) := by decide +kernel
theorem dX10_sweepNext_0 : decode cX10_sweepNext 0 = .ok (.aload_n 0, 1) := by decide +kernel
theorem dX10_sweepNext_1 : decode cX10_sweepNext 1 = .ok (.getfield 9, 3) := by decide +kernel
theorem dX10_sweepNext_4 : decode cX10_sweepNext 4 = .ok (.getfield 115, 3) := by decide +kernel
theorem dX10_sweepNext_7 : decode cX10_sweepNext 7 = .ok (.istore_n 1, 1) := by decide +kernel
theorem dX10_sweepNext_8 : decode cX10_sweepNext 8 = .ok (.aload_n 0, 1) := by decide +kernel
theorem dX10_sweepNext_9 : decode cX10_sweepNext 9 = .ok (.getfield 9, 3) := by decide +kernel
theorem dX10_sweepNext_12 : decode cX10_sweepNext 12 = .ok (.iload_n 1, 1) := by decide +kernel
theorem dX10_sweepNext_13 : decode cX10_sweepNext 13 = .ok (.invokevirtual 103, 3) := by decide +kernel
theorem dX10_sweepNext_16 : decode cX10_sweepNext 16 = .ok (.ifCond .eq 14, 3) := by decide +kernel
theorem dX10_sweepNext_19 : decode cX10_sweepNext 19 = .ok (.aload_n 0, 1) := by decide +kernel
theorem dX10_sweepNext_20 : decode cX10_sweepNext 20 = .ok (.getfield 9, 3) := by decide +kernel
theorem dX10_sweepNext_23 : decode cX10_sweepNext 23 = .ok (.iload_n 1, 1) := by decide +kernel
theorem dX10_sweepNext_24 : decode cX10_sweepNext 24 = .ok (.invokevirtual 118, 3) := by decide +kernel
theorem dX10_sweepNext_27 : decode cX10_sweepNext 27 = .ok (.goto 24, 3) := by decide +kernel
theorem dX10_sweepNext_30 : decode cX10_sweepNext 30 = .ok (.aload_n 0, 1) := by decide +kernel
theorem dX10_sweepNext_31 : decode cX10_sweepNext 31 = .ok (.getfield 9, 3) := by decide +kernel
theorem dX10_sweepNext_34 : decode cX10_sweepNext 34 = .ok (.iload_n 1, 1) := by decide +kernel
theorem dX10_sweepNext_35 : decode cX10_sweepNext 35 = .ok (.invokevirtual 121, 3) := by decide +kernel
theorem dX10_sweepNext_38 : decode cX10_sweepNext 38 = .ok (.ifCond .eq 13, 3) := by decide +kernel
theorem dX10_sweepNext_41 : decode cX10_sweepNext 41 = .ok (.aload_n 0, 1) := by decide +kernel
theorem dX10_sweepNext_42 : decode cX10_sweepNext 42 = .ok (.getfield 9, 3) := by decide +kernel
theorem dX10_sweepNext_45 : decode cX10_sweepNext 45 = .ok (.getfield 97, 3) := by decide +kernel
theorem dX10_sweepNext_48 : decode cX10_sweepNext 48 = .ok (.iload_n 1, 1) := by decide +kernel
theorem dX10_sweepNext_49 : decode cX10_sweepNext 49 = .ok (.iconst 0, 1) := by decide +kernel
theorem dX10_sweepNext_50 : decode cX10_sweepNext 50 = .ok (.iastore, 1) := by decide +kernel
theorem dX10_sweepNext_51 : decode cX10_sweepNext 51 = .ok (.aload_n 0, 1) := by decide +kernel
theorem dX10_sweepNext_52 : decode cX10_sweepNext 52 = .ok (.getfield 9, 3) := by decide +kernel
theorem dX10_sweepNext_55 : decode cX10_sweepNext 55 = .ok (.iload_n 1, 1) := by decide +kernel
theorem dX10_sweepNext_56 : decode cX10_sweepNext 56 = .ok (.iconst 1, 1) := by decide +kernel
theorem dX10_sweepNext_57 : decode cX10_sweepNext 57 = .ok (.iadd, 1) := by decide +kernel
theorem dX10_sweepNext_58 : decode cX10_sweepNext 58 = .ok (.putfield 115, 3) := by decide +kernel
theorem dX10_sweepNext_61 : decode cX10_sweepNext 61 = .ok (.aload_n 0, 1) := by decide +kernel
theorem dX10_sweepNext_62 : decode cX10_sweepNext 62 = .ok (.getfield 9, 3) := by decide +kernel
theorem dX10_sweepNext_65 : decode cX10_sweepNext 65 = .ok (.getfield 115, 3) := by decide +kernel
theorem dX10_sweepNext_68 : decode cX10_sweepNext 68 = .ok (.bipush 24, 2) := by decide +kernel
theorem dX10_sweepNext_70 : decode cX10_sweepNext 70 = .ok (.if_icmp .lt 32, 3) := by decide +kernel
theorem dX10_sweepNext_73 : decode cX10_sweepNext 73 = .ok (.aload_n 0, 1) := by decide +kernel
theorem dX10_sweepNext_74 : decode cX10_sweepNext 74 = .ok (.getfield 9, 3) := by decide +kernel
theorem dX10_sweepNext_77 : decode cX10_sweepNext 77 = .ok (.iconst 0, 1) := by decide +kernel
theorem dX10_sweepNext_78 : decode cX10_sweepNext 78 = .ok (.putfield 115, 3) := by decide +kernel
theorem dX10_sweepNext_81 : decode cX10_sweepNext 81 = .ok (.aload_n 0, 1) := by decide +kernel
theorem dX10_sweepNext_82 : decode cX10_sweepNext 82 = .ok (.getfield 9, 3) := by decide +kernel
theorem dX10_sweepNext_85 : decode cX10_sweepNext 85 = .ok (.iconst 0, 1) := by decide +kernel
theorem dX10_sweepNext_86 : decode cX10_sweepNext 86 = .ok (.putfield 19, 3) := by decide +kernel
theorem dX10_sweepNext_89 : decode cX10_sweepNext 89 = .ok (.aload_n 0, 1) := by decide +kernel
theorem dX10_sweepNext_90 : decode cX10_sweepNext 90 = .ok (.getfield 9, 3) := by decide +kernel
theorem dX10_sweepNext_93 : decode cX10_sweepNext 93 = .ok (.dup, 1) := by decide +kernel
theorem dX10_sweepNext_94 : decode cX10_sweepNext 94 = .ok (.getfield 43, 3) := by decide +kernel
theorem dX10_sweepNext_97 : decode cX10_sweepNext 97 = .ok (.iconst 1, 1) := by decide +kernel
theorem dX10_sweepNext_98 : decode cX10_sweepNext 98 = .ok (.iadd, 1) := by decide +kernel
theorem dX10_sweepNext_99 : decode cX10_sweepNext 99 = .ok (.putfield 43, 3) := by decide +kernel
theorem dX10_sweepNext_102 : decode cX10_sweepNext 102 = .ok (.return_, 1) := by decide +kernel
theorem dX10_doPartsUntilOver_0 : decode cX10_doPartsUntilOver 0 = .ok (.iconst 0, 1) := by decide +kernel
theorem dX10_doPartsUntilOver_1 : decode cX10_doPartsUntilOver 1 = .ok (.istore_n 2, 1) := by decide +kernel
theorem dX10_doPartsUntilOver_2 : decode cX10_doPartsUntilOver 2 = .ok (.iload_n 2, 1) := by decide +kernel
theorem dX10_doPartsUntilOver_3 : decode cX10_doPartsUntilOver 3 = .ok (.iload_n 1, 1) := by decide +kernel
theorem dX10_doPartsUntilOver_4 : decode cX10_doPartsUntilOver 4 = .ok (.if_icmp .ge 81, 3) := by decide +kernel
theorem dX10_doPartsUntilOver_7 : decode cX10_doPartsUntilOver 7 = .ok (.aload_n 0, 1) := by decide +kernel
theorem dX10_doPartsUntilOver_8 : decode cX10_doPartsUntilOver 8 = .ok (.getfield 9, 3) := by decide +kernel
theorem dX10_doPartsUntilOver_11 : decode cX10_doPartsUntilOver 11 = .ok (.getfield 19, 3) := by decide +kernel
theorem dX10_doPartsUntilOver_14 : decode cX10_doPartsUntilOver 14 = .ok (.ifCond .eq 71, 3) := by decide +kernel
theorem dX10_doPartsUntilOver_17 : decode cX10_doPartsUntilOver 17 = .ok (.aload_n 0, 1) := by decide +kernel
theorem dX10_doPartsUntilOver_18 : decode cX10_doPartsUntilOver 18 = .ok (.getfield 9, 3) := by decide +kernel
theorem dX10_doPartsUntilOver_21 : decode cX10_doPartsUntilOver 21 = .ok (.getfield 19, 3) := by decide +kernel
theorem dX10_doPartsUntilOver_24 : decode cX10_doPartsUntilOver 24 = .ok (.iconst 2, 1) := by decide +kernel
theorem dX10_doPartsUntilOver_25 : decode cX10_doPartsUntilOver 25 = .ok (.if_icmp .ne 10, 3) := by decide +kernel
theorem dX10_doPartsUntilOver_28 : decode cX10_doPartsUntilOver 28 = .ok (.aload_n 0, 1) := by decide +kernel
theorem dX10_doPartsUntilOver_29 : decode cX10_doPartsUntilOver 29 = .ok (.invokevirtual 81, 3) := by decide +kernel
theorem dX10_doPartsUntilOver_32 : decode cX10_doPartsUntilOver 32 = .ok (.goto 34, 3) := by decide +kernel
theorem dX10_doPartsUntilOver_35 : decode cX10_doPartsUntilOver 35 = .ok (.aload_n 0, 1) := by decide +kernel
theorem dX10_doPartsUntilOver_36 : decode cX10_doPartsUntilOver 36 = .ok (.getfield 9, 3) := by decide +kernel
theorem dX10_doPartsUntilOver_39 : decode cX10_doPartsUntilOver 39 = .ok (.getfield 34, 3) := by decide +kernel
theorem dX10_doPartsUntilOver_42 : decode cX10_doPartsUntilOver 42 = .ok (.getfield 38, 3) := by decide +kernel
theorem dX10_doPartsUntilOver_45 : decode cX10_doPartsUntilOver 45 = .ok (.ifCond .le 10, 3) := by decide +kernel
theorem dX10_doPartsUntilOver_48 : decode cX10_doPartsUntilOver 48 = .ok (.aload_n 0, 1) := by decide +kernel
theorem dX10_doPartsUntilOver_49 : decode cX10_doPartsUntilOver 49 = .ok (.invokevirtual 84, 3) := by decide +kernel
theorem dX10_doPartsUntilOver_52 : decode cX10_doPartsUntilOver 52 = .ok (.goto 14, 3) := by decide +kernel
theorem dX10_doPartsUntilOver_55 : decode cX10_doPartsUntilOver 55 = .ok (.aload_n 0, 1) := by decide +kernel
theorem dX10_doPartsUntilOver_56 : decode cX10_doPartsUntilOver 56 = .ok (.invokevirtual 87, 3) := by decide +kernel
theorem dX10_doPartsUntilOver_59 : decode cX10_doPartsUntilOver 59 = .ok (.ifCond .ne 7, 3) := by decide +kernel
theorem dX10_doPartsUntilOver_62 : decode cX10_doPartsUntilOver 62 = .ok (.aload_n 0, 1) := by decide +kernel
theorem dX10_doPartsUntilOver_63 : decode cX10_doPartsUntilOver 63 = .ok (.invokevirtual 91, 3) := by decide +kernel
theorem dX10_doPartsUntilOver_66 : decode cX10_doPartsUntilOver 66 = .ok (.aload_n 0, 1) := by decide +kernel
theorem dX10_doPartsUntilOver_67 : decode cX10_doPartsUntilOver 67 = .ok (.getfield 9, 3) := by decide +kernel
theorem dX10_doPartsUntilOver_70 : decode cX10_doPartsUntilOver 70 = .ok (.dup, 1) := by decide +kernel
theorem dX10_doPartsUntilOver_71 : decode cX10_doPartsUntilOver 71 = .ok (.getfield 94, 3) := by decide +kernel
theorem dX10_doPartsUntilOver_74 : decode cX10_doPartsUntilOver 74 = .ok (.iconst 1, 1) := by decide +kernel
theorem dX10_doPartsUntilOver_75 : decode cX10_doPartsUntilOver 75 = .ok (.iadd, 1) := by decide +kernel
theorem dX10_doPartsUntilOver_76 : decode cX10_doPartsUntilOver 76 = .ok (.putfield 94, 3) := by decide +kernel
theorem dX10_doPartsUntilOver_79 : decode cX10_doPartsUntilOver 79 = .ok (.iinc 2 1, 3) := by decide +kernel
theorem dX10_doPartsUntilOver_82 : decode cX10_doPartsUntilOver 82 = .ok (.goto (-80), 3) := by decide +kernel
theorem dX10_doPartsUntilOver_85 : decode cX10_doPartsUntilOver 85 = .ok (.iload_n 2, 1) := by decide +kernel
theorem dX10_doPartsUntilOver_86 : decode cX10_doPartsUntilOver 86 = .ok (.ireturn, 1) := by decide +kernel
theorem dX10_doParts_0 : decode cX10_doParts 0 = .ok (.iload_n 1, 1) := by decide +kernel
theorem dX10_doParts_1 : decode cX10_doParts 1 = .ok (.iconst 1, 1) := by decide +kernel
theorem dX10_doParts_2 : decode cX10_doParts 2 = .ok (.if_icmp .lt 9, 3) := by decide +kernel
theorem dX10_doParts_5 : decode cX10_doParts 5 = .ok (.iload_n 1, 1) := by decide +kernel
theorem dX10_doParts_6 : decode cX10_doParts 6 = .ok (.bipush 99, 2) := by decide +kernel
theorem dX10_doParts_8 : decode cX10_doParts 8 = .ok (.if_icmp .le 6, 3) := by decide +kernel
theorem dX10_doParts_11 : decode cX10_doParts 11 = .ok (.bipush (-12), 2) := by decide +kernel
theorem dX10_doParts_13 : decode cX10_doParts 13 = .ok (.ireturn, 1) := by decide +kernel
theorem dX10_doParts_14 : decode cX10_doParts 14 = .ok (.aload_n 0, 1) := by decide +kernel
theorem dX10_doParts_15 : decode cX10_doParts 15 = .ok (.getfield 9, 3) := by decide +kernel
theorem dX10_doParts_18 : decode cX10_doParts 18 = .ok (.getfield 19, 3) := by decide +kernel
theorem dX10_doParts_21 : decode cX10_doParts 21 = .ok (.ifCond .ne 19, 3) := by decide +kernel
theorem dX10_doParts_24 : decode cX10_doParts 24 = .ok (.aload_n 0, 1) := by decide +kernel
theorem dX10_doParts_25 : decode cX10_doParts 25 = .ok (.getfield 15, 3) := by decide +kernel
theorem dX10_doParts_28 : decode cX10_doParts 28 = .ok (.iconst 5, 1) := by decide +kernel
theorem dX10_doParts_29 : decode cX10_doParts 29 = .ok (.aload_n 0, 1) := by decide +kernel
theorem dX10_doParts_30 : decode cX10_doParts 30 = .ok (.getfield 9, 3) := by decide +kernel
theorem dX10_doParts_33 : decode cX10_doParts 33 = .ok (.getfield 43, 3) := by decide +kernel
theorem dX10_doParts_36 : decode cX10_doParts 36 = .ok (.invokevirtual 25, 3) := by decide +kernel
theorem dX10_doParts_39 : decode cX10_doParts 39 = .ok (.ireturn, 1) := by decide +kernel
theorem dX10_doParts_40 : decode cX10_doParts 40 = .ok (.aload_n 0, 1) := by decide +kernel
theorem dX10_doParts_41 : decode cX10_doParts 41 = .ok (.iload_n 1, 1) := by decide +kernel
theorem dX10_doParts_42 : decode cX10_doParts 42 = .ok (.invokevirtual 46, 3) := by decide +kernel
theorem dX10_doParts_45 : decode cX10_doParts 45 = .ok (.ireturn, 1) := by decide +kernel
theorem dX10_endRound_0 : decode cX10_endRound 0 = .ok (.aload_n 0, 1) := by decide +kernel
theorem dX10_endRound_1 : decode cX10_endRound 1 = .ok (.getfield 9, 3) := by decide +kernel
theorem dX10_endRound_4 : decode cX10_endRound 4 = .ok (.getfield 19, 3) := by decide +kernel
theorem dX10_endRound_7 : decode cX10_endRound 7 = .ok (.ifCond .ne 7, 3) := by decide +kernel
theorem dX10_endRound_10 : decode cX10_endRound 10 = .ok (.aload_n 0, 1) := by decide +kernel
theorem dX10_endRound_11 : decode cX10_endRound 11 = .ok (.invokevirtual 31, 3) := by decide +kernel
theorem dX10_endRound_14 : decode cX10_endRound 14 = .ok (.aload_n 0, 1) := by decide +kernel
theorem dX10_endRound_15 : decode cX10_endRound 15 = .ok (.getfield 9, 3) := by decide +kernel
theorem dX10_endRound_18 : decode cX10_endRound 18 = .ok (.getfield 50, 3) := by decide +kernel
theorem dX10_endRound_21 : decode cX10_endRound 21 = .ok (.istore_n 1, 1) := by decide +kernel
theorem dX10_endRound_22 : decode cX10_endRound 22 = .ok (.aload_n 0, 1) := by decide +kernel
theorem dX10_endRound_23 : decode cX10_endRound 23 = .ok (.bipush 99, 2) := by decide +kernel
theorem dX10_endRound_25 : decode cX10_endRound 25 = .ok (.invokevirtual 46, 3) := by decide +kernel
theorem dX10_endRound_28 : decode cX10_endRound 28 = .ok (.pop, 1) := by decide +kernel
theorem dX10_endRound_29 : decode cX10_endRound 29 = .ok (.aload_n 0, 1) := by decide +kernel
theorem dX10_endRound_30 : decode cX10_endRound 30 = .ok (.getfield 9, 3) := by decide +kernel
theorem dX10_endRound_33 : decode cX10_endRound 33 = .ok (.getfield 50, 3) := by decide +kernel
theorem dX10_endRound_36 : decode cX10_endRound 36 = .ok (.iload_n 1, 1) := by decide +kernel
theorem dX10_endRound_37 : decode cX10_endRound 37 = .ok (.isub, 1) := by decide +kernel
theorem dX10_endRound_38 : decode cX10_endRound 38 = .ok (.ireturn, 1) := by decide +kernel
theorem dX10_doRite_0 : decode cX10_doRite 0 = .ok (.aload_n 0, 1) := by decide +kernel
theorem dX10_doRite_1 : decode cX10_doRite 1 = .ok (.getfield 9, 3) := by decide +kernel
theorem dX10_doRite_4 : decode cX10_doRite 4 = .ok (.getfield 53, 3) := by decide +kernel
theorem dX10_doRite_7 : decode cX10_doRite 7 = .ok (.invokevirtual 56, 3) := by decide +kernel
theorem dX10_doRite_10 : decode cX10_doRite 10 = .ok (.istore_n 1, 1) := by decide +kernel
theorem dX10_doRite_11 : decode cX10_doRite 11 = .ok (.iload_n 1, 1) := by decide +kernel
theorem dX10_doRite_12 : decode cX10_doRite 12 = .ok (.invokestatic 60, 3) := by decide +kernel
theorem dX10_doRite_15 : decode cX10_doRite 15 = .ok (.ifCond .ne 20, 3) := by decide +kernel
theorem dX10_doRite_18 : decode cX10_doRite 18 = .ok (.aload_n 0, 1) := by decide +kernel
theorem dX10_doRite_19 : decode cX10_doRite 19 = .ok (.getfield 15, 3) := by decide +kernel
theorem dX10_doRite_22 : decode cX10_doRite 22 = .ok (.bipush 6, 2) := by decide +kernel
theorem dX10_doRite_24 : decode cX10_doRite 24 = .ok (.aload_n 0, 1) := by decide +kernel
theorem dX10_doRite_25 : decode cX10_doRite 25 = .ok (.getfield 9, 3) := by decide +kernel
theorem dX10_doRite_28 : decode cX10_doRite 28 = .ok (.getfield 64, 3) := by decide +kernel
theorem dX10_doRite_31 : decode cX10_doRite 31 = .ok (.invokevirtual 25, 3) := by decide +kernel
theorem dX10_doRite_34 : decode cX10_doRite 34 = .ok (.ireturn, 1) := by decide +kernel
theorem dX10_doRite_35 : decode cX10_doRite 35 = .ok (.aload_n 0, 1) := by decide +kernel
theorem dX10_doRite_36 : decode cX10_doRite 36 = .ok (.getfield 9, 3) := by decide +kernel
theorem dX10_doRite_39 : decode cX10_doRite 39 = .ok (.getfield 67, 3) := by decide +kernel
theorem dX10_doRite_42 : decode cX10_doRite 42 = .ok (.iload_n 1, 1) := by decide +kernel
theorem dX10_doRite_43 : decode cX10_doRite 43 = .ok (.iconst 0, 1) := by decide +kernel
theorem dX10_doRite_44 : decode cX10_doRite 44 = .ok (.iastore, 1) := by decide +kernel
theorem dX10_doRite_45 : decode cX10_doRite 45 = .ok (.aload_n 0, 1) := by decide +kernel
theorem dX10_doRite_46 : decode cX10_doRite 46 = .ok (.getfield 9, 3) := by decide +kernel
theorem dX10_doRite_49 : decode cX10_doRite 49 = .ok (.dup, 1) := by decide +kernel
theorem dX10_doRite_50 : decode cX10_doRite 50 = .ok (.getfield 64, 3) := by decide +kernel
theorem dX10_doRite_53 : decode cX10_doRite 53 = .ok (.iconst 1, 1) := by decide +kernel
theorem dX10_doRite_54 : decode cX10_doRite 54 = .ok (.iadd, 1) := by decide +kernel
theorem dX10_doRite_55 : decode cX10_doRite 55 = .ok (.putfield 64, 3) := by decide +kernel
theorem dX10_doRite_58 : decode cX10_doRite 58 = .ok (.iload_n 1, 1) := by decide +kernel
theorem dX10_doRite_59 : decode cX10_doRite 59 = .ok (.ireturn, 1) := by decide +kernel
theorem dX11_urn_0 : decode cX11_urn 0 = .ok (.aload_n 0, 1) := by decide +kernel
theorem dX11_urn_1 : decode cX11_urn 1 = .ok (.getfield 51, 3) := by decide +kernel
theorem dX11_urn_4 : decode cX11_urn 4 = .ok (.invokevirtual 69, 3) := by decide +kernel
theorem dX11_urn_7 : decode cX11_urn 7 = .ok (.aload_n 0, 1) := by decide +kernel
theorem dX11_urn_8 : decode cX11_urn 8 = .ok (.getfield 51, 3) := by decide +kernel
theorem dX11_urn_11 : decode cX11_urn 11 = .ok (.aload_n 0, 1) := by decide +kernel
theorem dX11_urn_12 : decode cX11_urn 12 = .ok (.getfield 28, 3) := by decide +kernel
theorem dX11_urn_15 : decode cX11_urn 15 = .ok (.iload_n 1, 1) := by decide +kernel
theorem dX11_urn_16 : decode cX11_urn 16 = .ok (.invokevirtual 72, 3) := by decide +kernel
theorem dX11_urn_19 : decode cX11_urn 19 = .ok (.invokevirtual 76, 3) := by decide +kernel
theorem dX11_urn_22 : decode cX11_urn 22 = .ok (.ireturn, 1) := by decide +kernel
theorem dX11_tie_0 : decode cX11_tie 0 = .ok (.aload_n 0, 1) := by decide +kernel
theorem dX11_tie_1 : decode cX11_tie 1 = .ok (.getfield 51, 3) := by decide +kernel
theorem dX11_tie_4 : decode cX11_tie 4 = .ok (.invokevirtual 69, 3) := by decide +kernel
theorem dX11_tie_7 : decode cX11_tie 7 = .ok (.aload_n 0, 1) := by decide +kernel
theorem dX11_tie_8 : decode cX11_tie 8 = .ok (.getfield 51, 3) := by decide +kernel
theorem dX11_tie_11 : decode cX11_tie 11 = .ok (.aload_n 0, 1) := by decide +kernel
theorem dX11_tie_12 : decode cX11_tie 12 = .ok (.getfield 28, 3) := by decide +kernel
theorem dX11_tie_15 : decode cX11_tie 15 = .ok (.iload_n 1, 1) := by decide +kernel
theorem dX11_tie_16 : decode cX11_tie 16 = .ok (.iload_n 2, 1) := by decide +kernel
theorem dX11_tie_17 : decode cX11_tie 17 = .ok (.iload_n 3, 1) := by decide +kernel
theorem dX11_tie_18 : decode cX11_tie 18 = .ok (.invokevirtual 80, 3) := by decide +kernel
theorem dX11_tie_21 : decode cX11_tie 21 = .ok (.invokevirtual 76, 3) := by decide +kernel
theorem dX11_tie_24 : decode cX11_tie 24 = .ok (.ireturn, 1) := by decide +kernel
theorem dX11_untie_0 : decode cX11_untie 0 = .ok (.aload_n 0, 1) := by decide +kernel
theorem dX11_untie_1 : decode cX11_untie 1 = .ok (.getfield 51, 3) := by decide +kernel
theorem dX11_untie_4 : decode cX11_untie 4 = .ok (.invokevirtual 69, 3) := by decide +kernel
theorem dX11_untie_7 : decode cX11_untie 7 = .ok (.aload_n 0, 1) := by decide +kernel
theorem dX11_untie_8 : decode cX11_untie 8 = .ok (.getfield 51, 3) := by decide +kernel
theorem dX11_untie_11 : decode cX11_untie 11 = .ok (.aload_n 0, 1) := by decide +kernel
theorem dX11_untie_12 : decode cX11_untie 12 = .ok (.getfield 28, 3) := by decide +kernel
theorem dX11_untie_15 : decode cX11_untie 15 = .ok (.iload_n 1, 1) := by decide +kernel
theorem dX11_untie_16 : decode cX11_untie 16 = .ok (.iload_n 2, 1) := by decide +kernel
theorem dX11_untie_17 : decode cX11_untie 17 = .ok (.invokevirtual 84, 3) := by decide +kernel
theorem dX11_untie_20 : decode cX11_untie 20 = .ok (.invokevirtual 76, 3) := by decide +kernel
theorem dX11_untie_23 : decode cX11_untie 23 = .ok (.ireturn, 1) := by decide +kernel
def f_X7_urnAtRank_L6 (a1 : Int) (μ1 : mu_T) : Nat → Int → Option (Int × mu_T)
  | 0, _ => none
  | fu6 + 1, x2_6 => lt_ x2_6 24
      (bd_ (f_X2_hasUrn μ1 x2_6) (fun v17 => jn_ (φ := Unit → Option (Int × mu_T)) (fun _ => nm_ (x2_6 + 1) (fun n39 => (f_X7_urnAtRank_L6 a1 μ1 fu6) n39))
      (fun J39 => eq_ v17 0
      (J39 ())
      (rd_ μ1 137 24 x2_6 (fun v29 => bd_ (f_X7_heavierThan μ1 v29) (fun v30 => eq_ v30 a1
      (some (x2_6, μ1))
      (J39 ())))))))
      (some ((-11), μ1))
def f_X7_urnAtRank (μ : mu_T) (a1 : Int) : Option (Int × mu_T) :=
  bd_ (f_X7_weighAll μ) (fun μ1 => f_X7_urnAtRank_L6 a1 μ1 20000 0)
set_option maxHeartbeats 4000000 in
set_option maxRecDepth 100000 in
theorem c_X7_urnAtRank {G : gp_} {ad : Nat → Nat} (μ : mu_T) (a1 : Int) (a : Int) (μr : mu_T) (h : f_X7_urnAtRank μ a1 = some (a, μr)) : mi_ yX7_urnAtRank cX7_urnAtRank 3 (some .int) ({ frames := 4, cells := 0, slots := 0, locals := 88 } : Room) G 151 ad (ceX G ad) [.ref (ad 136), .int (iI a1)] μ a μr := by
  refine mi_in (own := "UrnHeap$Paths") (lv := [(0, .ref (ad 136)), (1, .int (iI a1))]) (by decide) rfl rfl (Nat.le_of_ble_eq_true rfl) (fun X C E => ?_)
  unfold f_X7_urnAtRank at h
  refine xx_aload_n C 1 rfl 0 dX7_urnAtRank_0 rfl rfl ?_
  refine xx_cVv (As := []) (st := []) (o := 136) C 4 rfl (by decide) (ceX_136 _ _ _) rfl rfl ca_X7_weighAll cv_X7_weighAll w_759 rfl ⟨Nat.le_of_ble_eq_true rfl, Nat.le_of_ble_eq_true rfl⟩ ⟨Nat.le_of_ble_eq_true rfl, Nat.le_of_ble_eq_true rfl⟩ (Nat.le_of_ble_eq_true rfl) dX7_urnAtRank_1 (fun μ1 e9 => c_X7_weighAll _ μ1 e9) h (fun μ1 h => ?_) rfl
  refine xx_iconst C 5 rfl dX7_urnAtRank_4 ?_
  refine xx_istore_n (lv1 := [(2, .int (iI 0)), (0, .ref (ad 136)), (1, .int (iI a1))]) C 6 rfl (by decide) dX7_urnAtRank_5 rfl rfl ?_
  have L6 : ∀ (fu6 : Nat) (x2_6 : Int), f_X7_urnAtRank_L6 a1 μ1 fu6 x2_6 = some (a, μr) → wx_ G X 151 ad (ceX G ad) μ1 0 0 6 [(0, .ref (ad 136)), (1, .int (iI a1)), (2, .int (iI x2_6))] [] := by
    intro fu6
    induction fu6 with
    | zero => intro x2_6 h; exact nn_ h
    | succ fu6 K6 =>
      intro x2_6 h
      rw [f_X7_urnAtRank_L6] at h
      generalize f_X7_urnAtRank_L6 a1 μ1 fu6 = R6 at K6 h
      refine xx_iload_n C 7 rfl 2 dX7_urnAtRank_6 rfl rfl ?_
      refine xx_bipush C 9 rfl dX7_urnAtRank_7 (by decide) ?_
      refine xx_icmp_ge (tgt := 45) C 12 rfl dX7_urnAtRank_9 (by decide) h (fun h => ?_) (fun h => ?_)
      · refine xx_bipush C 47 rfl dX7_urnAtRank_45 (by decide) ?_
        exact xx_iret C E rfl ⟨Nat.le_of_ble_eq_true rfl, Nat.le_of_ble_eq_true rfl⟩ dX7_urnAtRank_47 h
      · refine xx_aload_n C 13 rfl 0 dX7_urnAtRank_12 rfl rfl ?_
        refine xx_getr (fi := 0) C 16 rfl (by decide) (ceX_136 _ _ _) rfl in_X7 (by decide) rfl rfl w_278 dX7_urnAtRank_13 ?_
        refine xx_iload_n C 17 rfl 2 dX7_urnAtRank_16 rfl rfl ?_
        refine xx_cVip (As := [.int (iI x2_6)]) (st := []) (o := 0) C 20 rfl (by decide) (ceX_0 _ _ _) rfl rfl ca_X2_hasUrn cv_X2_hasUrn w_683 rfl ⟨Nat.le_of_ble_eq_true rfl, Nat.le_of_ble_eq_true rfl⟩ ⟨Nat.le_of_ble_eq_true rfl, Nat.le_of_ble_eq_true rfl⟩ (Nat.le_of_ble_eq_true rfl) dX7_urnAtRank_17 (fun v17 e9 => c_X2_hasUrn _ _ v17 e9) h (fun v17 h => ?_) rfl
        refine jn_r (fun J => ∀ (_u : Unit), J _u = some (a, μr) → wx_ G X 151 ad (ceX G ad) μ1 0 0 39 [(0, .ref (ad 136)), (1, .int (iI a1)), (2, .int (iI x2_6))] []) h (fun _ h => ?_) (fun J39 K39 h => ?_)
        · refine xx_iincn C 42 rfl 2 (by decide) dX7_urnAtRank_39 rfl h (fun n39 h => ?_)
          refine xx_lv (lv1 := [(2, .int (iI n39)), (0, .ref (ad 136)), (1, .int (iI a1))]) rfl ?_
          refine xx_goto C 6 dX7_urnAtRank_42 (by decide) ?_
          refine xx_sub [1, 2, 0] rfl ?_
          exact K6 n39 h
        · refine xx_if_eq (tgt := 39) C 23 rfl dX7_urnAtRank_20 (by decide) h (fun h => ?_) (fun h => ?_)
          · exact K39 () h
          · refine xx_aload_n C 24 rfl 0 dX7_urnAtRank_23 rfl rfl ?_
            refine xx_aload_n C 25 rfl 0 dX7_urnAtRank_24 rfl rfl ?_
            refine xx_getr (fi := 1) C 28 rfl (by decide) (ceX_136 _ _ _) rfl in_X7 (by decide) rfl rfl w_279 dX7_urnAtRank_25 ?_
            refine xx_iload_n C 29 rfl 2 dX7_urnAtRank_28 rfl rfl ?_
            refine xx_iaload C 30 rfl (by decide) (fun row => ceX_137 _ _ row) (by decide) dX7_urnAtRank_29 h (fun v29 h => ?_)
            refine xx_cVip (As := [.int (iI v29)]) (st := []) (o := 136) C 33 rfl (by decide) (ceX_136 _ _ _) rfl rfl ca_X7_heavierThan cv_X7_heavierThan w_765 rfl ⟨Nat.le_of_ble_eq_true rfl, Nat.le_of_ble_eq_true rfl⟩ ⟨Nat.le_of_ble_eq_true rfl, Nat.le_of_ble_eq_true rfl⟩ (Nat.le_of_ble_eq_true rfl) dX7_urnAtRank_30 (fun v30 e9 => c_X7_heavierThan _ _ v30 e9) h (fun v30 h => ?_) rfl
            refine xx_iload_n C 34 rfl 1 dX7_urnAtRank_33 rfl rfl ?_
            refine xx_icmp_ne (tgt := 39) C 37 rfl dX7_urnAtRank_34 (by decide) h (fun h => ?_) (fun h => ?_)
            · exact K39 () h
            · refine xx_iload_n C 38 rfl 2 dX7_urnAtRank_37 rfl rfl ?_
              exact xx_iret C E rfl ⟨Nat.le_of_ble_eq_true rfl, Nat.le_of_ble_eq_true rfl⟩ dX7_urnAtRank_38 h
  refine xx_sub [1, 2, 0] rfl ?_
  exact L6 _ _ h

def f_X9_takeFirst (μ : mu_T)  : Option (Int × mu_T) :=
  nm_ (μ 8 1) (fun v1 => lt_ 0 v1
      (rd_ μ 9 24 0 (fun v15 => nm_ (μ 8 1) (fun v19 => wf_ μ 8 1 (v19 - 1) (fun μ24 => nm_ (μ24 8 1) (fun v38 => ac_ μ24 9 24 1 9 24 0 v38 (fun μ41 => some (v15, μ41)))))))
      (some ((-15), μ)))
set_option maxHeartbeats 4000000 in
set_option maxRecDepth 100000 in
theorem c_X9_takeFirst {G : gp_} {ad : Nat → Nat} (μ : mu_T)  (a : Int) (μr : mu_T) (h : f_X9_takeFirst μ  = some (a, μr)) : mi_ yX9_takeFirst cX9_takeFirst 2 (some .int) ({ frames := 1, cells := 0, slots := 0, locals := 18 } : Room) G 151 ad (ceX G ad) [.ref (ad 8)] μ a μr := by
  refine mi_in (own := "UrnHeap$Row") (lv := [(0, .ref (ad 8))]) (by decide) rfl rfl (Nat.le_of_ble_eq_true rfl) (fun X C E => ?_)
  unfold f_X9_takeFirst at h
  refine xx_aload_n C 1 rfl 0 dX9_takeFirst_0 rfl rfl ?_
  refine xx_geti (fi := 1) (j := 1) C 4 rfl (by decide) (ceX_8 _ _ _) rfl in_X9 (by decide) rfl rfl w_123 dX9_takeFirst_1 h (fun v1 h => ?_)
  refine xx_if_gt (tgt := 10) C 7 rfl dX9_takeFirst_4 (by decide) h (fun h => ?_) (fun h => ?_)
  · refine xx_aload_n C 11 rfl 0 dX9_takeFirst_10 rfl rfl ?_
    refine xx_getr (fi := 0) C 14 rfl (by decide) (ceX_8 _ _ _) rfl in_X9 (by decide) rfl rfl w_122 dX9_takeFirst_11 ?_
    refine xx_iconst C 15 rfl dX9_takeFirst_14 ?_
    refine xx_iaload C 16 rfl (by decide) (fun row => ceX_9 _ _ row) (by decide) dX9_takeFirst_15 h (fun v15 h => ?_)
    refine xx_istore_n (lv1 := [(1, .int (iI v15)), (0, .ref (ad 8))]) C 17 rfl (by decide) dX9_takeFirst_16 rfl rfl ?_
    refine xx_aload_n C 18 rfl 1 dX9_takeFirst_17 rfl rfl ?_
    refine xx_dup C 19 rfl dX9_takeFirst_18 rfl ?_
    refine xx_geti (fi := 1) (j := 1) C 22 rfl (by decide) (ceX_8 _ _ _) rfl in_X9 (by decide) rfl rfl w_123 dX9_takeFirst_19 h (fun v19 h => ?_)
    refine xx_iconst C 23 rfl dX9_takeFirst_22 ?_
    refine xx_isub C 24 rfl dX9_takeFirst_23 ?_
    refine xx_puti (fi := 1) (j := 1) C 27 rfl (by decide) (ceX_8 _ _ _) (puX_8_1 _ _ _ _) rfl in_X9 tyX9 tyX9_ok nmX9 (by decide) (Nat.le_of_ble_eq_true rfl) ⟨rfl, rfl, rfl⟩ w_123 dX9_takeFirst_24 h (fun μ24 h => ?_)
    refine xx_aload_n C 28 rfl 1 dX9_takeFirst_27 rfl rfl ?_
    refine xx_getr (fi := 0) C 31 rfl (by decide) (ceX_8 _ _ _) rfl in_X9 (by decide) rfl rfl w_122 dX9_takeFirst_28 ?_
    refine xx_iconst C 32 rfl dX9_takeFirst_31 ?_
    refine xx_aload_n C 33 rfl 1 dX9_takeFirst_32 rfl rfl ?_
    refine xx_getr (fi := 0) C 36 rfl (by decide) (ceX_8 _ _ _) rfl in_X9 (by decide) rfl rfl w_122 dX9_takeFirst_33 ?_
    refine xx_iconst C 37 rfl dX9_takeFirst_36 ?_
    refine xx_aload_n C 38 rfl 1 dX9_takeFirst_37 rfl rfl ?_
    refine xx_geti (fi := 1) (j := 1) C 41 rfl (by decide) (ceX_8 _ _ _) rfl in_X9 (by decide) rfl rfl w_123 dX9_takeFirst_38 h (fun v38 h => ?_)
    refine xx_acopy C 44 rfl (by decide) (fun row => ceX_9 _ _ row) (by decide) (fun row => ceX_9 _ _ row) (by decide) ⟨w_440, w_435, w_434, w_92⟩ ⟨Nat.le_of_ble_eq_true rfl, Nat.le_of_ble_eq_true rfl⟩ dX9_takeFirst_41 h (fun μ41 h => ?_)
    refine xx_iload_n C 45 rfl 0 dX9_takeFirst_44 rfl rfl ?_
    exact xx_iret C E rfl ⟨Nat.le_of_ble_eq_true rfl, Nat.le_of_ble_eq_true rfl⟩ dX9_takeFirst_45 h
  · refine xx_bipush C 9 rfl dX9_takeFirst_7 (by decide) ?_
    exact xx_iret C E rfl ⟨Nat.le_of_ble_eq_true rfl, Nat.le_of_ble_eq_true rfl⟩ dX9_takeFirst_9 h

def f_X9_at (μ : mu_T) (a1 : Int) : Option Int :=
  lt_ a1 0
      (some (-11))
      (nm_ (μ 8 1) (fun v6 => lt_ a1 v6
      (lt_ a1 24
      (rd_ μ 9 24 a1 (fun v26 => some v26))
      (some (-11)))
      (some (-11))))
set_option maxHeartbeats 4000000 in
set_option maxRecDepth 100000 in
theorem c_X9_at {G : gp_} {ad : Nat → Nat} (μ : mu_T) (a1 : Int) (a : Int) (h : f_X9_at μ a1 = some a) : mi_ yX9_at cX9_at 2 (some .int) ({ frames := 0, cells := 0, slots := 0, locals := 0 } : Room) G 151 ad (ceX G ad) [.ref (ad 8), .int (iI a1)] μ a μ := by
  refine mi_in (own := "UrnHeap$Row") (lv := [(0, .ref (ad 8)), (1, .int (iI a1))]) (by decide) rfl rfl (Nat.le_of_ble_eq_true rfl) (fun X C E => ?_)
  unfold f_X9_at at h
  refine xx_iload_n C 1 rfl 1 dX9_at_0 rfl rfl ?_
  refine xx_if_lt (tgt := 30) C 4 rfl dX9_at_1 (by decide) h (fun h => ?_) (fun h => ?_)
  · refine xx_bipush C 32 rfl dX9_at_30 (by decide) ?_
    exact xx_iretp C E rfl ⟨Nat.le_of_ble_eq_true rfl, Nat.le_of_ble_eq_true rfl⟩ dX9_at_32 h
  · refine xx_iload_n C 5 rfl 1 dX9_at_4 rfl rfl ?_
    refine xx_aload_n C 6 rfl 0 dX9_at_5 rfl rfl ?_
    refine xx_geti (fi := 1) (j := 1) C 9 rfl (by decide) (ceX_8 _ _ _) rfl in_X9 (by decide) rfl rfl w_123 dX9_at_6 h (fun v6 h => ?_)
    refine xx_icmp_ge (tgt := 30) C 12 rfl dX9_at_9 (by decide) h (fun h => ?_) (fun h => ?_)
    · refine xx_bipush C 32 rfl dX9_at_30 (by decide) ?_
      exact xx_iretp C E rfl ⟨Nat.le_of_ble_eq_true rfl, Nat.le_of_ble_eq_true rfl⟩ dX9_at_32 h
    · refine xx_iload_n C 13 rfl 1 dX9_at_12 rfl rfl ?_
      refine xx_aload_n C 14 rfl 0 dX9_at_13 rfl rfl ?_
      refine xx_getr (fi := 0) C 17 rfl (by decide) (ceX_8 _ _ _) rfl in_X9 (by decide) rfl rfl w_122 dX9_at_14 ?_
      refine xx_alen (nA := 24) C 18 rfl (by decide) (fun row => ceX_9 _ _ row) dX9_at_17 ?_
      refine xx_icmp_ge (tgt := 30) C 21 rfl dX9_at_18 (by decide) h (fun h => ?_) (fun h => ?_)
      · refine xx_bipush C 32 rfl dX9_at_30 (by decide) ?_
        exact xx_iretp C E rfl ⟨Nat.le_of_ble_eq_true rfl, Nat.le_of_ble_eq_true rfl⟩ dX9_at_32 h
      · refine xx_aload_n C 22 rfl 0 dX9_at_21 rfl rfl ?_
        refine xx_getr (fi := 0) C 25 rfl (by decide) (ceX_8 _ _ _) rfl in_X9 (by decide) rfl rfl w_122 dX9_at_22 ?_
        refine xx_iload_n C 26 rfl 1 dX9_at_25 rfl rfl ?_
        refine xx_iaload C 27 rfl (by decide) (fun row => ceX_9 _ _ row) (by decide) dX9_at_26 h (fun v26 h => ?_)
        refine xx_goto C 32 dX9_at_27 (by decide) ?_
        exact xx_iretp C E rfl ⟨Nat.le_of_ble_eq_true rfl, Nat.le_of_ble_eq_true rfl⟩ dX9_at_32 h

def f_X9_at_o10 (μ : mu_T) (a1 : Int) : Option Int :=
  lt_ a1 0
      (some (-11))
      (nm_ (μ 10 1) (fun v6 => lt_ a1 v6
      (lt_ a1 24
      (rd_ μ 11 24 a1 (fun v26 => some v26))
      (some (-11)))
      (some (-11))))
set_option maxHeartbeats 4000000 in
set_option maxRecDepth 100000 in
theorem c_X9_at_o10 {G : gp_} {ad : Nat → Nat} (μ : mu_T) (a1 : Int) (a : Int) (h : f_X9_at_o10 μ a1 = some a) : mi_ yX9_at cX9_at 2 (some .int) ({ frames := 0, cells := 0, slots := 0, locals := 0 } : Room) G 151 ad (ceX G ad) [.ref (ad 10), .int (iI a1)] μ a μ := by
  refine mi_in (own := "UrnHeap$Row") (lv := [(0, .ref (ad 10)), (1, .int (iI a1))]) (by decide) rfl rfl (Nat.le_of_ble_eq_true rfl) (fun X C E => ?_)
  unfold f_X9_at_o10 at h
  refine xx_iload_n C 1 rfl 1 dX9_at_0 rfl rfl ?_
  refine xx_if_lt (tgt := 30) C 4 rfl dX9_at_1 (by decide) h (fun h => ?_) (fun h => ?_)
  · refine xx_bipush C 32 rfl dX9_at_30 (by decide) ?_
    exact xx_iretp C E rfl ⟨Nat.le_of_ble_eq_true rfl, Nat.le_of_ble_eq_true rfl⟩ dX9_at_32 h
  · refine xx_iload_n C 5 rfl 1 dX9_at_4 rfl rfl ?_
    refine xx_aload_n C 6 rfl 0 dX9_at_5 rfl rfl ?_
    refine xx_geti (fi := 1) (j := 1) C 9 rfl (by decide) (ceX_10 _ _ _) rfl in_X9 (by decide) rfl rfl w_123 dX9_at_6 h (fun v6 h => ?_)
    refine xx_icmp_ge (tgt := 30) C 12 rfl dX9_at_9 (by decide) h (fun h => ?_) (fun h => ?_)
    · refine xx_bipush C 32 rfl dX9_at_30 (by decide) ?_
      exact xx_iretp C E rfl ⟨Nat.le_of_ble_eq_true rfl, Nat.le_of_ble_eq_true rfl⟩ dX9_at_32 h
    · refine xx_iload_n C 13 rfl 1 dX9_at_12 rfl rfl ?_
      refine xx_aload_n C 14 rfl 0 dX9_at_13 rfl rfl ?_
      refine xx_getr (fi := 0) C 17 rfl (by decide) (ceX_10 _ _ _) rfl in_X9 (by decide) rfl rfl w_122 dX9_at_14 ?_
      refine xx_alen (nA := 24) C 18 rfl (by decide) (fun row => ceX_11 _ _ row) dX9_at_17 ?_
      refine xx_icmp_ge (tgt := 30) C 21 rfl dX9_at_18 (by decide) h (fun h => ?_) (fun h => ?_)
      · refine xx_bipush C 32 rfl dX9_at_30 (by decide) ?_
        exact xx_iretp C E rfl ⟨Nat.le_of_ble_eq_true rfl, Nat.le_of_ble_eq_true rfl⟩ dX9_at_32 h
      · refine xx_aload_n C 22 rfl 0 dX9_at_21 rfl rfl ?_
        refine xx_getr (fi := 0) C 25 rfl (by decide) (ceX_10 _ _ _) rfl in_X9 (by decide) rfl rfl w_122 dX9_at_22 ?_
        refine xx_iload_n C 26 rfl 1 dX9_at_25 rfl rfl ?_
        refine xx_iaload C 27 rfl (by decide) (fun row => ceX_11 _ _ row) (by decide) dX9_at_26 h (fun v26 h => ?_)
        refine xx_goto C 32 dX9_at_27 (by decide) ?_
        exact xx_iretp C E rfl ⟨Nat.le_of_ble_eq_true rfl, Nat.le_of_ble_eq_true rfl⟩ dX9_at_32 h

def f_X10_markRoots_L40  : Nat → Int → mu_T → Option mu_T
  | 0, _, _ => none
  | fu40 + 1, x1_40, μ40 => nm_ (μ40 10 1) (fun v48 => lt_ x1_40 v48
      (bd_ (f_X9_at_o10 μ40 x1_40) (fun v66 => bd_ (f_X2_makeGrey μ40 v66) (fun μ69 => nm_ (x1_40 + 1) (fun n72 => (f_X10_markRoots_L40 fu40) n72 μ69))))
      (some μ40))
def f_X10_markRoots_L10 (J38 : mu_T → Option mu_T) : Nat → Int → mu_T → Option mu_T
  | 0, _, _ => none
  | fu10 + 1, x1_10, μ10 => lt_ x1_10 6
      (rd_ μ10 6 6 x1_10 (fun v28 => bd_ (f_X2_makeGrey μ10 v28) (fun μ29 => nm_ (x1_10 + 1) (fun n32 => (f_X10_markRoots_L10 J38 fu10) n32 μ29))))
      (J38 μ10)
def f_X10_markRoots (μ : mu_T)  : Option mu_T :=
  wf_ μ 0 9 1 (fun μ5 => jn_ (φ := mu_T → Option mu_T) (fun μ38 => f_X10_markRoots_L40 20000 0 μ38)
      (fun J38 => f_X10_markRoots_L10 J38 20000 0 μ5))
set_option maxHeartbeats 4000000 in
set_option maxRecDepth 100000 in
theorem c_X10_markRoots {G : gp_} {ad : Nat → Nat} (μ : mu_T)  (μr : mu_T) (h : f_X10_markRoots μ  = some μr) : mv_ yX10_markRoots cX10_markRoots 2 ({ frames := 2, cells := 0, slots := 0, locals := 42 } : Room) G 151 ad (ceX G ad) [.ref (ad 135)] μ μr := by
  refine mv_in (own := "UrnHeap$Sexton") (lv := [(0, .ref (ad 135))]) (by decide) rfl rfl (Nat.le_of_ble_eq_true rfl) (fun X C E => ?_)
  unfold f_X10_markRoots at h
  refine xx_aload_n C 1 rfl 0 dX10_markRoots_0 rfl rfl ?_
  refine xx_getr (fi := 0) C 4 rfl (by decide) (ceX_135 _ _ _) rfl in_X10 (by decide) rfl rfl w_265 dX10_markRoots_1 ?_
  refine xx_iconst C 5 rfl dX10_markRoots_4 ?_
  refine xx_puti (fi := 9) (j := 9) C 8 rfl (by decide) (ceX_0 _ _ _) (puX_0_9 _ _ _ _) rfl in_X2 tyX2 tyX2_ok nmX2 (by decide) (Nat.le_of_ble_eq_true rfl) ⟨rfl, rfl, rfl⟩ w_170 dX10_markRoots_5 h (fun μ5 h => ?_)
  refine xx_iconst C 9 rfl dX10_markRoots_8 ?_
  refine xx_istore_n (lv1 := [(1, .int (iI 0)), (0, .ref (ad 135))]) C 10 rfl (by decide) dX10_markRoots_9 rfl rfl ?_
  refine jn_r (fun J => ∀ (μ38 : mu_T), J μ38 = some μr → wx_ G X 151 ad (ceX G ad) μ38 0 0 38 [(0, .ref (ad 135))] []) h (fun μ38 h => ?_) (fun J38 K38 h => ?_)
  · refine xx_iconst C 39 rfl dX10_markRoots_38 ?_
    refine xx_istore_n (lv1 := [(1, .int (iI 0)), (0, .ref (ad 135))]) C 40 rfl (by decide) dX10_markRoots_39 rfl rfl ?_
    have L40 : ∀ (fu40 : Nat) (x1_40 : Int) (μ40 : mu_T), f_X10_markRoots_L40 fu40 x1_40 μ40 = some μr → wx_ G X 151 ad (ceX G ad) μ40 0 0 40 [(0, .ref (ad 135)), (1, .int (iI x1_40))] [] := by
      intro fu40
      induction fu40 with
      | zero => intro x1_40 μ40 h; exact nn_ h
      | succ fu40 K40 =>
        intro x1_40 μ40 h
        rw [f_X10_markRoots_L40] at h
        generalize f_X10_markRoots_L40 fu40 = R40 at K40 h
        refine xx_iload_n C 41 rfl 1 dX10_markRoots_40 rfl rfl ?_
        refine xx_aload_n C 42 rfl 0 dX10_markRoots_41 rfl rfl ?_
        refine xx_getr (fi := 0) C 45 rfl (by decide) (ceX_135 _ _ _) rfl in_X10 (by decide) rfl rfl w_265 dX10_markRoots_42 ?_
        refine xx_getr (fi := 8) C 48 rfl (by decide) (ceX_0 _ _ _) rfl in_X2 (by decide) rfl rfl w_167 dX10_markRoots_45 ?_
        refine xx_geti (fi := 1) (j := 1) C 51 rfl (by decide) (ceX_10 _ _ _) rfl in_X9 (by decide) rfl rfl w_124 dX10_markRoots_48 h (fun v48 h => ?_)
        refine xx_icmp_ge (tgt := 78) C 54 rfl dX10_markRoots_51 (by decide) h (fun h => ?_) (fun h => ?_)
        · exact xx_vret C E rfl ⟨Nat.le_of_ble_eq_true rfl, Nat.le_of_ble_eq_true rfl⟩ dX10_markRoots_78 h
        · refine xx_aload_n C 55 rfl 0 dX10_markRoots_54 rfl rfl ?_
          refine xx_getr (fi := 0) C 58 rfl (by decide) (ceX_135 _ _ _) rfl in_X10 (by decide) rfl rfl w_265 dX10_markRoots_55 ?_
          refine xx_aload_n C 59 rfl 0 dX10_markRoots_58 rfl rfl ?_
          refine xx_getr (fi := 0) C 62 rfl (by decide) (ceX_135 _ _ _) rfl in_X10 (by decide) rfl rfl w_265 dX10_markRoots_59 ?_
          refine xx_getr (fi := 8) C 65 rfl (by decide) (ceX_0 _ _ _) rfl in_X2 (by decide) rfl rfl w_167 dX10_markRoots_62 ?_
          refine xx_iload_n C 66 rfl 1 dX10_markRoots_65 rfl rfl ?_
          refine xx_cVip (As := [.int (iI x1_40)]) (st := [.ref (ad 0)]) (o := 10) C 69 rfl (by decide) (ceX_10 _ _ _) rfl rfl ca_X9_at cv_X9_at w_588 rfl ⟨Nat.le_of_ble_eq_true rfl, Nat.le_of_ble_eq_true rfl⟩ ⟨Nat.le_of_ble_eq_true rfl, Nat.le_of_ble_eq_true rfl⟩ (Nat.le_of_ble_eq_true rfl) dX10_markRoots_66 (fun v66 e9 => c_X9_at_o10 _ _ v66 e9) h (fun v66 h => ?_) rfl
          refine xx_cVv (As := [.int (iI v66)]) (st := []) (o := 0) C 72 rfl (by decide) (ceX_0 _ _ _) rfl rfl ca_X2_makeGrey cv_X2_makeGrey w_587 rfl ⟨Nat.le_of_ble_eq_true rfl, Nat.le_of_ble_eq_true rfl⟩ ⟨Nat.le_of_ble_eq_true rfl, Nat.le_of_ble_eq_true rfl⟩ (Nat.le_of_ble_eq_true rfl) dX10_markRoots_69 (fun μ69 e9 => c_X2_makeGrey _ _ μ69 e9) h (fun μ69 h => ?_) rfl
          refine xx_iincn C 75 rfl 1 (by decide) dX10_markRoots_72 rfl h (fun n72 h => ?_)
          refine xx_lv (lv1 := [(1, .int (iI n72)), (0, .ref (ad 135))]) rfl ?_
          refine xx_goto C 40 dX10_markRoots_75 (by decide) ?_
          refine xx_sub [1, 0] rfl ?_
          exact K40 n72 μ69 h
    refine xx_sub [1, 0] rfl ?_
    exact L40 _ _ _ h
  · have L10 : ∀ (fu10 : Nat) (x1_10 : Int) (μ10 : mu_T), f_X10_markRoots_L10 J38 fu10 x1_10 μ10 = some μr → wx_ G X 151 ad (ceX G ad) μ10 0 0 10 [(0, .ref (ad 135)), (1, .int (iI x1_10))] [] := by
      intro fu10
      induction fu10 with
      | zero => intro x1_10 μ10 h; exact nn_ h
      | succ fu10 K10 =>
        intro x1_10 μ10 h
        rw [f_X10_markRoots_L10] at h
        generalize f_X10_markRoots_L10 J38 fu10 = R10 at K10 h
        refine xx_iload_n C 11 rfl 1 dX10_markRoots_10 rfl rfl ?_
        refine xx_bipush C 13 rfl dX10_markRoots_11 (by decide) ?_
        refine xx_icmp_ge (tgt := 38) C 16 rfl dX10_markRoots_13 (by decide) h (fun h => ?_) (fun h => ?_)
        · refine xx_sub [0] rfl ?_
          exact K38 μ10 h
        · refine xx_aload_n C 17 rfl 0 dX10_markRoots_16 rfl rfl ?_
          refine xx_getr (fi := 0) C 20 rfl (by decide) (ceX_135 _ _ _) rfl in_X10 (by decide) rfl rfl w_265 dX10_markRoots_17 ?_
          refine xx_aload_n C 21 rfl 0 dX10_markRoots_20 rfl rfl ?_
          refine xx_getr (fi := 0) C 24 rfl (by decide) (ceX_135 _ _ _) rfl in_X10 (by decide) rfl rfl w_265 dX10_markRoots_21 ?_
          refine xx_getr (fi := 5) C 27 rfl (by decide) (ceX_0 _ _ _) rfl in_X2 (by decide) rfl rfl w_159 dX10_markRoots_24 ?_
          refine xx_iload_n C 28 rfl 1 dX10_markRoots_27 rfl rfl ?_
          refine xx_iaload C 29 rfl (by decide) (fun row => ceX_6 _ _ row) (by decide) dX10_markRoots_28 h (fun v28 h => ?_)
          refine xx_cVv (As := [.int (iI v28)]) (st := []) (o := 0) C 32 rfl (by decide) (ceX_0 _ _ _) rfl rfl ca_X2_makeGrey cv_X2_makeGrey w_587 rfl ⟨Nat.le_of_ble_eq_true rfl, Nat.le_of_ble_eq_true rfl⟩ ⟨Nat.le_of_ble_eq_true rfl, Nat.le_of_ble_eq_true rfl⟩ (Nat.le_of_ble_eq_true rfl) dX10_markRoots_29 (fun μ29 e9 => c_X2_makeGrey _ _ μ29 e9) h (fun μ29 h => ?_) rfl
          refine xx_iincn C 35 rfl 1 (by decide) dX10_markRoots_32 rfl h (fun n32 h => ?_)
          refine xx_lv (lv1 := [(1, .int (iI n32)), (0, .ref (ad 135))]) rfl ?_
          refine xx_goto C 10 dX10_markRoots_35 (by decide) ?_
          refine xx_sub [1, 0] rfl ?_
          exact K10 n32 μ29 h
    refine xx_sub [1, 0] rfl ?_
    exact L10 _ _ _ h

def f_X10_beginRound (μ : mu_T)  : Option (Int × mu_T) :=
  nm_ (μ 0 9) (fun v4 => eq_ v4 0
      (bd_ (f_X10_markRoots μ) (fun μ27 => nm_ (μ27 8 1) (fun v37 => some (v37, μ27))))
      (nm_ (μ 0 9) (fun v19 => bp_ (f_X8_refuse μ 4 v19) (fun v22 μ22 => some (v22, μ22)))))
set_option maxHeartbeats 4000000 in
set_option maxRecDepth 100000 in
theorem c_X10_beginRound {G : gp_} {ad : Nat → Nat} (μ : mu_T)  (a : Int) (μr : mu_T) (h : f_X10_beginRound μ  = some (a, μr)) : mi_ yX10_beginRound cX10_beginRound 1 (some .int) ({ frames := 3, cells := 0, slots := 0, locals := 63 } : Room) G 151 ad (ceX G ad) [.ref (ad 135)] μ a μr := by
  refine mi_in (own := "UrnHeap$Sexton") (lv := [(0, .ref (ad 135))]) (by decide) rfl rfl (Nat.le_of_ble_eq_true rfl) (fun X C E => ?_)
  unfold f_X10_beginRound at h
  refine xx_aload_n C 1 rfl 0 dX10_beginRound_0 rfl rfl ?_
  refine xx_getr (fi := 0) C 4 rfl (by decide) (ceX_135 _ _ _) rfl in_X10 (by decide) rfl rfl w_265 dX10_beginRound_1 ?_
  refine xx_geti (fi := 9) (j := 9) C 7 rfl (by decide) (ceX_0 _ _ _) rfl in_X2 (by decide) rfl rfl w_170 dX10_beginRound_4 h (fun v4 h => ?_)
  refine xx_if_eq (tgt := 26) C 10 rfl dX10_beginRound_7 (by decide) h (fun h => ?_) (fun h => ?_)
  · refine xx_aload_n C 27 rfl 0 dX10_beginRound_26 rfl rfl ?_
    refine xx_cVv (As := []) (st := []) (o := 135) C 30 rfl (by decide) (ceX_135 _ _ _) rfl rfl ca_X10_markRoots cv_X10_markRoots w_583 rfl ⟨Nat.le_of_ble_eq_true rfl, Nat.le_of_ble_eq_true rfl⟩ ⟨Nat.le_of_ble_eq_true rfl, Nat.le_of_ble_eq_true rfl⟩ (Nat.le_of_ble_eq_true rfl) dX10_beginRound_27 (fun μ27 e9 => c_X10_markRoots _ μ27 e9) h (fun μ27 h => ?_) rfl
    refine xx_aload_n C 31 rfl 0 dX10_beginRound_30 rfl rfl ?_
    refine xx_getr (fi := 0) C 34 rfl (by decide) (ceX_135 _ _ _) rfl in_X10 (by decide) rfl rfl w_265 dX10_beginRound_31 ?_
    refine xx_getr (fi := 7) C 37 rfl (by decide) (ceX_0 _ _ _) rfl in_X2 (by decide) rfl rfl w_164 dX10_beginRound_34 ?_
    refine xx_geti (fi := 1) (j := 1) C 40 rfl (by decide) (ceX_8 _ _ _) rfl in_X9 (by decide) rfl rfl w_124 dX10_beginRound_37 h (fun v37 h => ?_)
    exact xx_iret C E rfl ⟨Nat.le_of_ble_eq_true rfl, Nat.le_of_ble_eq_true rfl⟩ dX10_beginRound_40 h
  · refine xx_aload_n C 11 rfl 0 dX10_beginRound_10 rfl rfl ?_
    refine xx_getr (fi := 1) C 14 rfl (by decide) (ceX_135 _ _ _) rfl in_X10 (by decide) rfl rfl w_266 dX10_beginRound_11 ?_
    refine xx_iconst C 15 rfl dX10_beginRound_14 ?_
    refine xx_aload_n C 16 rfl 0 dX10_beginRound_15 rfl rfl ?_
    refine xx_getr (fi := 0) C 19 rfl (by decide) (ceX_135 _ _ _) rfl in_X10 (by decide) rfl rfl w_265 dX10_beginRound_16 ?_
    refine xx_geti (fi := 9) (j := 9) C 22 rfl (by decide) (ceX_0 _ _ _) rfl in_X2 (by decide) rfl rfl w_170 dX10_beginRound_19 h (fun v19 h => ?_)
    refine xx_cVi (As := [.int (iI 4), .int (iI v19)]) (st := []) (o := 133) C 25 rfl (by decide) (ceX_133 _ _ _) rfl rfl ca_X8_refuse cv_X8_refuse w_582 rfl ⟨Nat.le_of_ble_eq_true rfl, Nat.le_of_ble_eq_true rfl⟩ ⟨Nat.le_of_ble_eq_true rfl, Nat.le_of_ble_eq_true rfl⟩ (Nat.le_of_ble_eq_true rfl) dX10_beginRound_22 (fun v22 μ22 e9 => c_X8_refuse _ _ _ v22 μ22 e9) h (fun v22 μ22 h => ?_) rfl
    exact xx_iret C E rfl ⟨Nat.le_of_ble_eq_true rfl, Nat.le_of_ble_eq_true rfl⟩ dX10_beginRound_25 h

def f_X9_addLast_o10 (μ : mu_T) (a1 : Int) : Option mu_T :=
  nm_ (μ 10 1) (fun v1 => lt_ v1 24
      (nm_ (μ 10 1) (fun v17 => wr_ μ 11 24 v17 a1 (fun μ21 => nm_ (μ21 10 1) (fun v24 => wf_ μ21 10 1 (v24 + 1) (fun μ29 => some μ29)))))
      (some μ))
set_option maxHeartbeats 4000000 in
set_option maxRecDepth 100000 in
theorem c_X9_addLast_o10 {G : gp_} {ad : Nat → Nat} (μ : mu_T) (a1 : Int) (μr : mu_T) (h : f_X9_addLast_o10 μ a1 = some μr) : mv_ yX9_addLast cX9_addLast 2 ({ frames := 0, cells := 0, slots := 0, locals := 0 } : Room) G 151 ad (ceX G ad) [.ref (ad 10), .int (iI a1)] μ μr := by
  refine mv_in (own := "UrnHeap$Row") (lv := [(0, .ref (ad 10)), (1, .int (iI a1))]) (by decide) rfl rfl (Nat.le_of_ble_eq_true rfl) (fun X C E => ?_)
  unfold f_X9_addLast_o10 at h
  refine xx_aload_n C 1 rfl 0 dX9_addLast_0 rfl rfl ?_
  refine xx_geti (fi := 1) (j := 1) C 4 rfl (by decide) (ceX_10 _ _ _) rfl in_X9 (by decide) rfl rfl w_123 dX9_addLast_1 h (fun v1 h => ?_)
  refine xx_aload_n C 5 rfl 0 dX9_addLast_4 rfl rfl ?_
  refine xx_getr (fi := 0) C 8 rfl (by decide) (ceX_10 _ _ _) rfl in_X9 (by decide) rfl rfl w_122 dX9_addLast_5 ?_
  refine xx_alen (nA := 24) C 9 rfl (by decide) (fun row => ceX_11 _ _ row) dX9_addLast_8 ?_
  refine xx_icmp_ge (tgt := 32) C 12 rfl dX9_addLast_9 (by decide) h (fun h => ?_) (fun h => ?_)
  · exact xx_vret C E rfl ⟨Nat.le_of_ble_eq_true rfl, Nat.le_of_ble_eq_true rfl⟩ dX9_addLast_32 h
  · refine xx_aload_n C 13 rfl 0 dX9_addLast_12 rfl rfl ?_
    refine xx_getr (fi := 0) C 16 rfl (by decide) (ceX_10 _ _ _) rfl in_X9 (by decide) rfl rfl w_122 dX9_addLast_13 ?_
    refine xx_aload_n C 17 rfl 0 dX9_addLast_16 rfl rfl ?_
    refine xx_geti (fi := 1) (j := 1) C 20 rfl (by decide) (ceX_10 _ _ _) rfl in_X9 (by decide) rfl rfl w_123 dX9_addLast_17 h (fun v17 h => ?_)
    refine xx_iload_n C 21 rfl 1 dX9_addLast_20 rfl rfl ?_
    refine xx_iastore C 22 rfl (by decide) (fun row => ceX_11 _ _ row) (by decide) dX9_addLast_21 h (fun μ21 h => ?_)
    refine xx_aload_n C 23 rfl 0 dX9_addLast_22 rfl rfl ?_
    refine xx_dup C 24 rfl dX9_addLast_23 rfl ?_
    refine xx_geti (fi := 1) (j := 1) C 27 rfl (by decide) (ceX_10 _ _ _) rfl in_X9 (by decide) rfl rfl w_123 dX9_addLast_24 h (fun v24 h => ?_)
    refine xx_iconst C 28 rfl dX9_addLast_27 ?_
    refine xx_iadd C 29 rfl dX9_addLast_28 ?_
    refine xx_puti (fi := 1) (j := 1) C 32 rfl (by decide) (ceX_10 _ _ _) (puX_10_1 _ _ _ _) rfl in_X9 tyX9 tyX9_ok nmX9 (by decide) (Nat.le_of_ble_eq_true rfl) ⟨rfl, rfl, rfl⟩ w_123 dX9_addLast_29 h (fun μ29 h => ?_)
    exact xx_vret C E rfl ⟨Nat.le_of_ble_eq_true rfl, Nat.le_of_ble_eq_true rfl⟩ dX9_addLast_32 h

def f_X10_makeRitesDue_L4  : Nat → Int → Int → mu_T → Option (Int × mu_T)
  | 0, _, _, _ => none
  | fu4 + 1, x1_4, x2_4, μ4 => lt_ x2_4 24
      (bd_ (f_X2_isWhite μ4 x2_4) (fun v15 => jn_ (φ := Int → mu_T → Option (Int × mu_T)) (fun x1_65 μ65 => nm_ (x2_4 + 1) (fun n65 => (f_X10_makeRitesDue_L4 fu4) x1_65 n65 μ65))
      (fun J65 => eq_ v15 0
      (J65 x1_4 μ4)
      (rd_ μ4 3 24 x2_4 (fun v29 => eq_ v29 1
      (bd_ (f_X2_makeGrey μ4 x2_4) (fun μ39 => wr_ μ39 3 24 x2_4 2 (fun μ51 => bd_ (f_X9_addLast_o10 μ51 x2_4) (fun μ60 => J65 1 μ60))))
      (J65 x1_4 μ4))))))
      (rz_ x1_4 μ4)
def f_X10_makeRitesDue (μ : mu_T)  : Option (Int × mu_T) :=
  f_X10_makeRitesDue_L4 20000 0 0 μ
set_option maxHeartbeats 4000000 in
set_option maxRecDepth 100000 in
theorem c_X10_makeRitesDue {G : gp_} {ad : Nat → Nat} (μ : mu_T)  (a : Int) (μr : mu_T) (h : f_X10_makeRitesDue μ  = some (a, μr)) : mi_ yX10_makeRitesDue cX10_makeRitesDue 3 (some .boolean) ({ frames := 2, cells := 0, slots := 0, locals := 42 } : Room) G 151 ad (ceX G ad) [.ref (ad 135)] μ a μr := by
  refine mi_in (own := "UrnHeap$Sexton") (lv := [(0, .ref (ad 135))]) (by decide) rfl rfl (Nat.le_of_ble_eq_true rfl) (fun X C E => ?_)
  unfold f_X10_makeRitesDue at h
  refine xx_iconst C 1 rfl dX10_makeRitesDue_0 ?_
  refine xx_istore_n (lv1 := [(1, .int (iI 0)), (0, .ref (ad 135))]) C 2 rfl (by decide) dX10_makeRitesDue_1 rfl rfl ?_
  refine xx_iconst C 3 rfl dX10_makeRitesDue_2 ?_
  refine xx_istore_n (lv1 := [(2, .int (iI 0)), (1, .int (iI 0)), (0, .ref (ad 135))]) C 4 rfl (by decide) dX10_makeRitesDue_3 rfl rfl ?_
  have L4 : ∀ (fu4 : Nat) (x1_4 : Int) (x2_4 : Int) (μ4 : mu_T), f_X10_makeRitesDue_L4 fu4 x1_4 x2_4 μ4 = some (a, μr) → wx_ G X 151 ad (ceX G ad) μ4 0 0 4 [(0, .ref (ad 135)), (1, .int (iI x1_4)), (2, .int (iI x2_4))] [] := by
    intro fu4
    induction fu4 with
    | zero => intro x1_4 x2_4 μ4 h; exact nn_ h
    | succ fu4 K4 =>
      intro x1_4 x2_4 μ4 h
      rw [f_X10_makeRitesDue_L4] at h
      generalize f_X10_makeRitesDue_L4 fu4 = R4 at K4 h
      refine xx_iload_n C 5 rfl 2 dX10_makeRitesDue_4 rfl rfl ?_
      refine xx_bipush C 7 rfl dX10_makeRitesDue_5 (by decide) ?_
      refine xx_icmp_ge (tgt := 71) C 10 rfl dX10_makeRitesDue_7 (by decide) h (fun h => ?_) (fun h => ?_)
      · refine xx_iload_n C 72 rfl 1 dX10_makeRitesDue_71 rfl rfl ?_
        exact xx_zretz C E rfl ⟨Nat.le_of_ble_eq_true rfl, Nat.le_of_ble_eq_true rfl⟩ dX10_makeRitesDue_72 h
      · refine xx_aload_n C 11 rfl 0 dX10_makeRitesDue_10 rfl rfl ?_
        refine xx_getr (fi := 0) C 14 rfl (by decide) (ceX_135 _ _ _) rfl in_X10 (by decide) rfl rfl w_265 dX10_makeRitesDue_11 ?_
        refine xx_iload_n C 15 rfl 2 dX10_makeRitesDue_14 rfl rfl ?_
        refine xx_cVip (As := [.int (iI x2_4)]) (st := []) (o := 0) C 18 rfl (by decide) (ceX_0 _ _ _) rfl rfl ca_X2_isWhite cv_X2_isWhite w_608 rfl ⟨Nat.le_of_ble_eq_true rfl, Nat.le_of_ble_eq_true rfl⟩ ⟨Nat.le_of_ble_eq_true rfl, Nat.le_of_ble_eq_true rfl⟩ (Nat.le_of_ble_eq_true rfl) dX10_makeRitesDue_15 (fun v15 e9 => c_X2_isWhite _ _ v15 e9) h (fun v15 h => ?_) rfl
        refine jn_r (fun J => ∀ (x1_65 : Int) (μ65 : mu_T), J x1_65 μ65 = some (a, μr) → wx_ G X 151 ad (ceX G ad) μ65 0 0 65 [(0, .ref (ad 135)), (1, .int (iI x1_65)), (2, .int (iI x2_4))] []) h (fun x1_65 μ65 h => ?_) (fun J65 K65 h => ?_)
        · refine xx_iincn C 68 rfl 2 (by decide) dX10_makeRitesDue_65 rfl h (fun n65 h => ?_)
          refine xx_lv (lv1 := [(2, .int (iI n65)), (0, .ref (ad 135)), (1, .int (iI x1_65))]) rfl ?_
          refine xx_goto C 4 dX10_makeRitesDue_68 (by decide) ?_
          refine xx_sub [1, 2, 0] rfl ?_
          exact K4 x1_65 n65 μ65 h
        · refine xx_if_eq (tgt := 65) C 21 rfl dX10_makeRitesDue_18 (by decide) h (fun h => ?_) (fun h => ?_)
          · exact K65 x1_4 μ4 h
          · refine xx_aload_n C 22 rfl 0 dX10_makeRitesDue_21 rfl rfl ?_
            refine xx_getr (fi := 0) C 25 rfl (by decide) (ceX_135 _ _ _) rfl in_X10 (by decide) rfl rfl w_265 dX10_makeRitesDue_22 ?_
            refine xx_getr (fi := 2) C 28 rfl (by decide) (ceX_0 _ _ _) rfl in_X2 (by decide) rfl rfl w_146 dX10_makeRitesDue_25 ?_
            refine xx_iload_n C 29 rfl 2 dX10_makeRitesDue_28 rfl rfl ?_
            refine xx_iaload C 30 rfl (by decide) (fun row => ceX_3 _ _ row) (by decide) dX10_makeRitesDue_29 h (fun v29 h => ?_)
            refine xx_iconst C 31 rfl dX10_makeRitesDue_30 ?_
            refine xx_icmp_ne (tgt := 65) C 34 rfl dX10_makeRitesDue_31 (by decide) h (fun h => ?_) (fun h => ?_)
            · exact K65 x1_4 μ4 h
            · refine xx_aload_n C 35 rfl 0 dX10_makeRitesDue_34 rfl rfl ?_
              refine xx_getr (fi := 0) C 38 rfl (by decide) (ceX_135 _ _ _) rfl in_X10 (by decide) rfl rfl w_265 dX10_makeRitesDue_35 ?_
              refine xx_iload_n C 39 rfl 2 dX10_makeRitesDue_38 rfl rfl ?_
              refine xx_cVv (As := [.int (iI x2_4)]) (st := []) (o := 0) C 42 rfl (by decide) (ceX_0 _ _ _) rfl rfl ca_X2_makeGrey cv_X2_makeGrey w_587 rfl ⟨Nat.le_of_ble_eq_true rfl, Nat.le_of_ble_eq_true rfl⟩ ⟨Nat.le_of_ble_eq_true rfl, Nat.le_of_ble_eq_true rfl⟩ (Nat.le_of_ble_eq_true rfl) dX10_makeRitesDue_39 (fun μ39 e9 => c_X2_makeGrey _ _ μ39 e9) h (fun μ39 h => ?_) rfl
              refine xx_aload_n C 43 rfl 0 dX10_makeRitesDue_42 rfl rfl ?_
              refine xx_getr (fi := 0) C 46 rfl (by decide) (ceX_135 _ _ _) rfl in_X10 (by decide) rfl rfl w_265 dX10_makeRitesDue_43 ?_
              refine xx_getr (fi := 2) C 49 rfl (by decide) (ceX_0 _ _ _) rfl in_X2 (by decide) rfl rfl w_146 dX10_makeRitesDue_46 ?_
              refine xx_iload_n C 50 rfl 2 dX10_makeRitesDue_49 rfl rfl ?_
              refine xx_iconst C 51 rfl dX10_makeRitesDue_50 ?_
              refine xx_iastore C 52 rfl (by decide) (fun row => ceX_3 _ _ row) (by decide) dX10_makeRitesDue_51 h (fun μ51 h => ?_)
              refine xx_aload_n C 53 rfl 0 dX10_makeRitesDue_52 rfl rfl ?_
              refine xx_getr (fi := 0) C 56 rfl (by decide) (ceX_135 _ _ _) rfl in_X10 (by decide) rfl rfl w_265 dX10_makeRitesDue_53 ?_
              refine xx_getr (fi := 8) C 59 rfl (by decide) (ceX_0 _ _ _) rfl in_X2 (by decide) rfl rfl w_167 dX10_makeRitesDue_56 ?_
              refine xx_iload_n C 60 rfl 2 dX10_makeRitesDue_59 rfl rfl ?_
              refine xx_cVv (As := [.int (iI x2_4)]) (st := []) (o := 10) C 63 rfl (by decide) (ceX_10 _ _ _) rfl rfl ca_X9_addLast cv_X9_addLast w_629 rfl ⟨Nat.le_of_ble_eq_true rfl, Nat.le_of_ble_eq_true rfl⟩ ⟨Nat.le_of_ble_eq_true rfl, Nat.le_of_ble_eq_true rfl⟩ (Nat.le_of_ble_eq_true rfl) dX10_makeRitesDue_60 (fun μ60 e9 => c_X9_addLast_o10 _ _ μ60 e9) h (fun μ60 h => ?_) rfl
              refine xx_iconst C 64 rfl dX10_makeRitesDue_63 ?_
              refine xx_istore_n (lv1 := [(1, .int (iI 1)), (0, .ref (ad 135)), (2, .int (iI x2_4))]) C 65 rfl (by decide) dX10_makeRitesDue_64 rfl rfl ?_
              refine xx_sub [1, 0, 2] rfl ?_
              exact K65 1 μ60 h
  refine xx_sub [2, 1, 0] rfl ?_
  exact L4 _ _ _ _ h

def f_X10_beginSweep_L2 (J57 : mu_T → Option mu_T) : Nat → Int → mu_T → Option mu_T
  | 0, _, _ => none
  | fu2 + 1, x1_2, μ2 => lt_ x1_2 24
      (rd_ μ2 2 24 x1_2 (fun v20 => bd_ (f_X2_isWhite μ2 v20) (fun v21 => jn_ (φ := mu_T → Option mu_T) (fun μ51 => nm_ (x1_2 + 1) (fun n51 => (f_X10_beginSweep_L2 J57 fu2) n51 μ51))
      (fun J51 => eq_ v21 0
      (J51 μ2)
      (wr_ μ2 2 24 x1_2 (-15) (fun μ37 => nm_ (μ37 0 15) (fun v43 => wf_ μ37 0 15 (v43 + 1) (fun μ48 => J51 μ48))))))))
      (J57 μ2)
def f_X10_beginSweep (μ : mu_T)  : Option mu_T :=
  jn_ (φ := mu_T → Option mu_T) (fun μ57 => wf_ μ57 0 9 2 (fun μ62 => wf_ μ62 0 10 0 (fun μ70 => some μ70)))
      (fun J57 => f_X10_beginSweep_L2 J57 20000 0 μ)
set_option maxHeartbeats 4000000 in
set_option maxRecDepth 100000 in
theorem c_X10_beginSweep {G : gp_} {ad : Nat → Nat} (μ : mu_T)  (μr : mu_T) (h : f_X10_beginSweep μ  = some μr) : mv_ yX10_beginSweep cX10_beginSweep 2 ({ frames := 1, cells := 0, slots := 0, locals := 21 } : Room) G 151 ad (ceX G ad) [.ref (ad 135)] μ μr := by
  refine mv_in (own := "UrnHeap$Sexton") (lv := [(0, .ref (ad 135))]) (by decide) rfl rfl (Nat.le_of_ble_eq_true rfl) (fun X C E => ?_)
  unfold f_X10_beginSweep at h
  refine xx_iconst C 1 rfl dX10_beginSweep_0 ?_
  refine xx_istore_n (lv1 := [(1, .int (iI 0)), (0, .ref (ad 135))]) C 2 rfl (by decide) dX10_beginSweep_1 rfl rfl ?_
  refine jn_r (fun J => ∀ (μ57 : mu_T), J μ57 = some μr → wx_ G X 151 ad (ceX G ad) μ57 0 0 57 [(0, .ref (ad 135))] []) h (fun μ57 h => ?_) (fun J57 K57 h => ?_)
  · refine xx_aload_n C 58 rfl 0 dX10_beginSweep_57 rfl rfl ?_
    refine xx_getr (fi := 0) C 61 rfl (by decide) (ceX_135 _ _ _) rfl in_X10 (by decide) rfl rfl w_265 dX10_beginSweep_58 ?_
    refine xx_iconst C 62 rfl dX10_beginSweep_61 ?_
    refine xx_puti (fi := 9) (j := 9) C 65 rfl (by decide) (ceX_0 _ _ _) (puX_0_9 _ _ _ _) rfl in_X2 tyX2 tyX2_ok nmX2 (by decide) (Nat.le_of_ble_eq_true rfl) ⟨rfl, rfl, rfl⟩ w_170 dX10_beginSweep_62 h (fun μ62 h => ?_)
    refine xx_aload_n C 66 rfl 0 dX10_beginSweep_65 rfl rfl ?_
    refine xx_getr (fi := 0) C 69 rfl (by decide) (ceX_135 _ _ _) rfl in_X10 (by decide) rfl rfl w_265 dX10_beginSweep_66 ?_
    refine xx_iconst C 70 rfl dX10_beginSweep_69 ?_
    refine xx_puti (fi := 10) (j := 10) C 73 rfl (by decide) (ceX_0 _ _ _) (puX_0_10 _ _ _ _) rfl in_X2 tyX2 tyX2_ok nmX2 (by decide) (Nat.le_of_ble_eq_true rfl) ⟨rfl, rfl, rfl⟩ w_175 dX10_beginSweep_70 h (fun μ70 h => ?_)
    exact xx_vret C E rfl ⟨Nat.le_of_ble_eq_true rfl, Nat.le_of_ble_eq_true rfl⟩ dX10_beginSweep_73 h
  · have L2 : ∀ (fu2 : Nat) (x1_2 : Int) (μ2 : mu_T), f_X10_beginSweep_L2 J57 fu2 x1_2 μ2 = some μr → wx_ G X 151 ad (ceX G ad) μ2 0 0 2 [(0, .ref (ad 135)), (1, .int (iI x1_2))] [] := by
      intro fu2
      induction fu2 with
      | zero => intro x1_2 μ2 h; exact nn_ h
      | succ fu2 K2 =>
        intro x1_2 μ2 h
        rw [f_X10_beginSweep_L2] at h
        generalize f_X10_beginSweep_L2 J57 fu2 = R2 at K2 h
        refine xx_iload_n C 3 rfl 1 dX10_beginSweep_2 rfl rfl ?_
        refine xx_bipush C 5 rfl dX10_beginSweep_3 (by decide) ?_
        refine xx_icmp_ge (tgt := 57) C 8 rfl dX10_beginSweep_5 (by decide) h (fun h => ?_) (fun h => ?_)
        · refine xx_sub [0] rfl ?_
          exact K57 μ2 h
        · refine xx_aload_n C 9 rfl 0 dX10_beginSweep_8 rfl rfl ?_
          refine xx_getr (fi := 0) C 12 rfl (by decide) (ceX_135 _ _ _) rfl in_X10 (by decide) rfl rfl w_265 dX10_beginSweep_9 ?_
          refine xx_aload_n C 13 rfl 0 dX10_beginSweep_12 rfl rfl ?_
          refine xx_getr (fi := 0) C 16 rfl (by decide) (ceX_135 _ _ _) rfl in_X10 (by decide) rfl rfl w_265 dX10_beginSweep_13 ?_
          refine xx_getr (fi := 1) C 19 rfl (by decide) (ceX_0 _ _ _) rfl in_X2 (by decide) rfl rfl w_142 dX10_beginSweep_16 ?_
          refine xx_iload_n C 20 rfl 1 dX10_beginSweep_19 rfl rfl ?_
          refine xx_iaload C 21 rfl (by decide) (fun row => ceX_2 _ _ row) (by decide) dX10_beginSweep_20 h (fun v20 h => ?_)
          refine xx_cVip (As := [.int (iI v20)]) (st := []) (o := 0) C 24 rfl (by decide) (ceX_0 _ _ _) rfl rfl ca_X2_isWhite cv_X2_isWhite w_608 rfl ⟨Nat.le_of_ble_eq_true rfl, Nat.le_of_ble_eq_true rfl⟩ ⟨Nat.le_of_ble_eq_true rfl, Nat.le_of_ble_eq_true rfl⟩ (Nat.le_of_ble_eq_true rfl) dX10_beginSweep_21 (fun v21 e9 => c_X2_isWhite _ _ v21 e9) h (fun v21 h => ?_) rfl
          refine jn_r (fun J => ∀ (μ51 : mu_T), J μ51 = some μr → wx_ G X 151 ad (ceX G ad) μ51 0 0 51 [(0, .ref (ad 135)), (1, .int (iI x1_2))] []) h (fun μ51 h => ?_) (fun J51 K51 h => ?_)
          · refine xx_iincn C 54 rfl 1 (by decide) dX10_beginSweep_51 rfl h (fun n51 h => ?_)
            refine xx_lv (lv1 := [(1, .int (iI n51)), (0, .ref (ad 135))]) rfl ?_
            refine xx_goto C 2 dX10_beginSweep_54 (by decide) ?_
            refine xx_sub [1, 0] rfl ?_
            exact K2 n51 μ51 h
          · refine xx_if_eq (tgt := 51) C 27 rfl dX10_beginSweep_24 (by decide) h (fun h => ?_) (fun h => ?_)
            · exact K51 μ2 h
            · refine xx_aload_n C 28 rfl 0 dX10_beginSweep_27 rfl rfl ?_
              refine xx_getr (fi := 0) C 31 rfl (by decide) (ceX_135 _ _ _) rfl in_X10 (by decide) rfl rfl w_265 dX10_beginSweep_28 ?_
              refine xx_getr (fi := 1) C 34 rfl (by decide) (ceX_0 _ _ _) rfl in_X2 (by decide) rfl rfl w_142 dX10_beginSweep_31 ?_
              refine xx_iload_n C 35 rfl 1 dX10_beginSweep_34 rfl rfl ?_
              refine xx_bipush C 37 rfl dX10_beginSweep_35 (by decide) ?_
              refine xx_iastore C 38 rfl (by decide) (fun row => ceX_2 _ _ row) (by decide) dX10_beginSweep_37 h (fun μ37 h => ?_)
              refine xx_aload_n C 39 rfl 0 dX10_beginSweep_38 rfl rfl ?_
              refine xx_getr (fi := 0) C 42 rfl (by decide) (ceX_135 _ _ _) rfl in_X10 (by decide) rfl rfl w_265 dX10_beginSweep_39 ?_
              refine xx_dup C 43 rfl dX10_beginSweep_42 rfl ?_
              refine xx_geti (fi := 15) (j := 15) C 46 rfl (by decide) (ceX_0 _ _ _) rfl in_X2 (by decide) rfl rfl w_191 dX10_beginSweep_43 h (fun v43 h => ?_)
              refine xx_iconst C 47 rfl dX10_beginSweep_46 ?_
              refine xx_iadd C 48 rfl dX10_beginSweep_47 ?_
              refine xx_puti (fi := 15) (j := 15) C 51 rfl (by decide) (ceX_0 _ _ _) (puX_0_15 _ _ _ _) rfl in_X2 tyX2 tyX2_ok nmX2 (by decide) (Nat.le_of_ble_eq_true rfl) ⟨rfl, rfl, rfl⟩ w_191 dX10_beginSweep_48 h (fun μ48 h => ?_)
              exact K51 μ48 h
    refine xx_sub [1, 0] rfl ?_
    exact L2 _ _ _ h

def f_X10_blackenFirst_L31 (v7 : Int) : Nat → Int → mu_T → Option mu_T
  | 0, _, _ => none
  | fu31 + 1, x2_31, μ31 => lt_ x2_31 4
      (bd_ (f_X2_target μ31 v7 x2_31) (fun v46 => bd_ (f_X2_makeGrey μ31 v46) (fun μ49 => nm_ (x2_31 + 1) (fun n52 => (f_X10_blackenFirst_L31 v7 fu31) n52 μ49))))
      (some μ31)
def f_X10_blackenFirst (μ : mu_T)  : Option mu_T :=
  bp_ (f_X9_takeFirst μ) (fun v7 μ7 => bd_ (f_X11_isCell μ7 v7) (fun v12 => eq_ v12 0
      (some μ7)
      (wr_ μ7 4 24 v7 2 (fun μ28 => f_X10_blackenFirst_L31 v7 20000 0 μ28))))
set_option maxHeartbeats 4000000 in
set_option maxRecDepth 100000 in
theorem c_X10_blackenFirst {G : gp_} {ad : Nat → Nat} (μ : mu_T)  (μr : mu_T) (h : f_X10_blackenFirst μ  = some μr) : mv_ yX10_blackenFirst cX10_blackenFirst 3 ({ frames := 2, cells := 0, slots := 0, locals := 42 } : Room) G 151 ad (ceX G ad) [.ref (ad 135)] μ μr := by
  refine mv_in (own := "UrnHeap$Sexton") (lv := [(0, .ref (ad 135))]) (by decide) rfl rfl (Nat.le_of_ble_eq_true rfl) (fun X C E => ?_)
  unfold f_X10_blackenFirst at h
  refine xx_aload_n C 1 rfl 0 dX10_blackenFirst_0 rfl rfl ?_
  refine xx_getr (fi := 0) C 4 rfl (by decide) (ceX_135 _ _ _) rfl in_X10 (by decide) rfl rfl w_265 dX10_blackenFirst_1 ?_
  refine xx_getr (fi := 7) C 7 rfl (by decide) (ceX_0 _ _ _) rfl in_X2 (by decide) rfl rfl w_164 dX10_blackenFirst_4 ?_
  refine xx_cVi (As := []) (st := []) (o := 8) C 10 rfl (by decide) (ceX_8 _ _ _) rfl rfl ca_X9_takeFirst cv_X9_takeFirst w_619 rfl ⟨Nat.le_of_ble_eq_true rfl, Nat.le_of_ble_eq_true rfl⟩ ⟨Nat.le_of_ble_eq_true rfl, Nat.le_of_ble_eq_true rfl⟩ (Nat.le_of_ble_eq_true rfl) dX10_blackenFirst_7 (fun v7 μ7 e9 => c_X9_takeFirst _ v7 μ7 e9) h (fun v7 μ7 h => ?_) rfl
  refine xx_istore_n (lv1 := [(1, .int (iI v7)), (0, .ref (ad 135))]) C 11 rfl (by decide) dX10_blackenFirst_10 rfl rfl ?_
  refine xx_iload_n C 12 rfl 0 dX10_blackenFirst_11 rfl rfl ?_
  refine xx_cNip (As := [.int (iI v7)]) (st := []) C 15 rfl  ca_X11_isCell cs_X11_isCell 8 rfl rfl ⟨Nat.le_of_ble_eq_true rfl, Nat.le_of_ble_eq_true rfl⟩ ⟨Nat.le_of_ble_eq_true rfl, Nat.le_of_ble_eq_true rfl⟩ (Nat.le_of_ble_eq_true rfl) dX10_blackenFirst_12 (fun v12 e9 => c_X11_isCell _ _ v12 e9) h (fun v12 h => ?_) rfl
  refine xx_if_ne (tgt := 19) C 18 rfl dX10_blackenFirst_15 (by decide) h (fun h => ?_) (fun h => ?_)
  · refine xx_aload_n C 20 rfl 1 dX10_blackenFirst_19 rfl rfl ?_
    refine xx_getr (fi := 0) C 23 rfl (by decide) (ceX_135 _ _ _) rfl in_X10 (by decide) rfl rfl w_265 dX10_blackenFirst_20 ?_
    refine xx_getr (fi := 3) C 26 rfl (by decide) (ceX_0 _ _ _) rfl in_X2 (by decide) rfl rfl w_152 dX10_blackenFirst_23 ?_
    refine xx_iload_n C 27 rfl 0 dX10_blackenFirst_26 rfl rfl ?_
    refine xx_iconst C 28 rfl dX10_blackenFirst_27 ?_
    refine xx_iastore C 29 rfl (by decide) (fun row => ceX_4 _ _ row) (by decide) dX10_blackenFirst_28 h (fun μ28 h => ?_)
    refine xx_iconst C 30 rfl dX10_blackenFirst_29 ?_
    refine xx_istore_n (lv1 := [(2, .int (iI 0)), (1, .int (iI v7)), (0, .ref (ad 135))]) C 31 rfl (by decide) dX10_blackenFirst_30 rfl rfl ?_
    have L31 : ∀ (fu31 : Nat) (x2_31 : Int) (μ31 : mu_T), f_X10_blackenFirst_L31 v7 fu31 x2_31 μ31 = some μr → wx_ G X 151 ad (ceX G ad) μ31 0 0 31 [(0, .ref (ad 135)), (1, .int (iI v7)), (2, .int (iI x2_31))] [] := by
      intro fu31
      induction fu31 with
      | zero => intro x2_31 μ31 h; exact nn_ h
      | succ fu31 K31 =>
        intro x2_31 μ31 h
        rw [f_X10_blackenFirst_L31] at h
        generalize f_X10_blackenFirst_L31 v7 fu31 = R31 at K31 h
        refine xx_iload_n C 32 rfl 2 dX10_blackenFirst_31 rfl rfl ?_
        refine xx_iconst C 33 rfl dX10_blackenFirst_32 ?_
        refine xx_icmp_ge (tgt := 58) C 36 rfl dX10_blackenFirst_33 (by decide) h (fun h => ?_) (fun h => ?_)
        · exact xx_vret C E rfl ⟨Nat.le_of_ble_eq_true rfl, Nat.le_of_ble_eq_true rfl⟩ dX10_blackenFirst_58 h
        · refine xx_aload_n C 37 rfl 0 dX10_blackenFirst_36 rfl rfl ?_
          refine xx_getr (fi := 0) C 40 rfl (by decide) (ceX_135 _ _ _) rfl in_X10 (by decide) rfl rfl w_265 dX10_blackenFirst_37 ?_
          refine xx_aload_n C 41 rfl 0 dX10_blackenFirst_40 rfl rfl ?_
          refine xx_getr (fi := 0) C 44 rfl (by decide) (ceX_135 _ _ _) rfl in_X10 (by decide) rfl rfl w_265 dX10_blackenFirst_41 ?_
          refine xx_iload_n C 45 rfl 1 dX10_blackenFirst_44 rfl rfl ?_
          refine xx_iload_n C 46 rfl 2 dX10_blackenFirst_45 rfl rfl ?_
          refine xx_cVip (As := [.int (iI v7), .int (iI x2_31)]) (st := [.ref (ad 0)]) (o := 0) C 49 rfl (by decide) (ceX_0 _ _ _) rfl rfl ca_X2_target cv_X2_target w_624 rfl ⟨Nat.le_of_ble_eq_true rfl, Nat.le_of_ble_eq_true rfl⟩ ⟨Nat.le_of_ble_eq_true rfl, Nat.le_of_ble_eq_true rfl⟩ (Nat.le_of_ble_eq_true rfl) dX10_blackenFirst_46 (fun v46 e9 => c_X2_target _ _ _ v46 e9) h (fun v46 h => ?_) rfl
          refine xx_cVv (As := [.int (iI v46)]) (st := []) (o := 0) C 52 rfl (by decide) (ceX_0 _ _ _) rfl rfl ca_X2_makeGrey cv_X2_makeGrey w_587 rfl ⟨Nat.le_of_ble_eq_true rfl, Nat.le_of_ble_eq_true rfl⟩ ⟨Nat.le_of_ble_eq_true rfl, Nat.le_of_ble_eq_true rfl⟩ (Nat.le_of_ble_eq_true rfl) dX10_blackenFirst_49 (fun μ49 e9 => c_X2_makeGrey _ _ μ49 e9) h (fun μ49 h => ?_) rfl
          refine xx_iincn C 55 rfl 2 (by decide) dX10_blackenFirst_52 rfl h (fun n52 h => ?_)
          refine xx_lv (lv1 := [(2, .int (iI n52)), (0, .ref (ad 135)), (1, .int (iI v7))]) rfl ?_
          refine xx_goto C 31 dX10_blackenFirst_55 (by decide) ?_
          refine xx_sub [1, 2, 0] rfl ?_
          exact K31 n52 μ49 h
    refine xx_sub [2, 1, 0] rfl ?_
    exact L31 _ _ _ h
  · exact xx_vret C E rfl ⟨Nat.le_of_ble_eq_true rfl, Nat.le_of_ble_eq_true rfl⟩ dX10_blackenFirst_18 h

def f_X10_sweepNext (μ : mu_T)  : Option mu_T :=
  nm_ (μ 0 10) (fun v4 => bd_ (f_X2_isWhite μ v4) (fun v13 => jn_ (φ := mu_T → Option mu_T) (fun μ51 => wf_ μ51 0 10 (v4 + 1) (fun μ58 => nm_ (μ58 0 10) (fun v65 => lt_ v65 24
      (some μ58)
      (wf_ μ58 0 10 0 (fun μ78 => wf_ μ78 0 9 0 (fun μ86 => nm_ (μ86 0 11) (fun v94 => wf_ μ86 0 11 (v94 + 1) (fun μ99 => some μ99))))))))
      (fun J51 => eq_ v13 0
      (bd_ (f_X2_hasUrn μ v4) (fun v35 => eq_ v35 0
      (J51 μ)
      (wr_ μ 4 24 v4 0 (fun μ50 => J51 μ50))))
      (bd_ (f_X2_free μ v4) (fun μ24 => J51 μ24)))))
set_option maxHeartbeats 4000000 in
set_option maxRecDepth 100000 in
theorem c_X10_sweepNext {G : gp_} {ad : Nat → Nat} (μ : mu_T)  (μr : mu_T) (h : f_X10_sweepNext μ  = some μr) : mv_ yX10_sweepNext cX10_sweepNext 2 ({ frames := 2, cells := 0, slots := 0, locals := 43 } : Room) G 151 ad (ceX G ad) [.ref (ad 135)] μ μr := by
  refine mv_in (own := "UrnHeap$Sexton") (lv := [(0, .ref (ad 135))]) (by decide) rfl rfl (Nat.le_of_ble_eq_true rfl) (fun X C E => ?_)
  unfold f_X10_sweepNext at h
  refine xx_aload_n C 1 rfl 0 dX10_sweepNext_0 rfl rfl ?_
  refine xx_getr (fi := 0) C 4 rfl (by decide) (ceX_135 _ _ _) rfl in_X10 (by decide) rfl rfl w_265 dX10_sweepNext_1 ?_
  refine xx_geti (fi := 10) (j := 10) C 7 rfl (by decide) (ceX_0 _ _ _) rfl in_X2 (by decide) rfl rfl w_175 dX10_sweepNext_4 h (fun v4 h => ?_)
  refine xx_istore_n (lv1 := [(1, .int (iI v4)), (0, .ref (ad 135))]) C 8 rfl (by decide) dX10_sweepNext_7 rfl rfl ?_
  refine xx_aload_n C 9 rfl 1 dX10_sweepNext_8 rfl rfl ?_
  refine xx_getr (fi := 0) C 12 rfl (by decide) (ceX_135 _ _ _) rfl in_X10 (by decide) rfl rfl w_265 dX10_sweepNext_9 ?_
  refine xx_iload_n C 13 rfl 0 dX10_sweepNext_12 rfl rfl ?_
  refine xx_cVip (As := [.int (iI v4)]) (st := []) (o := 0) C 16 rfl (by decide) (ceX_0 _ _ _) rfl rfl ca_X2_isWhite cv_X2_isWhite w_608 rfl ⟨Nat.le_of_ble_eq_true rfl, Nat.le_of_ble_eq_true rfl⟩ ⟨Nat.le_of_ble_eq_true rfl, Nat.le_of_ble_eq_true rfl⟩ (Nat.le_of_ble_eq_true rfl) dX10_sweepNext_13 (fun v13 e9 => c_X2_isWhite _ _ v13 e9) h (fun v13 h => ?_) rfl
  refine jn_r (fun J => ∀ (μ51 : mu_T), J μ51 = some μr → wx_ G X 151 ad (ceX G ad) μ51 0 0 51 [(0, .ref (ad 135)), (1, .int (iI v4))] []) h (fun μ51 h => ?_) (fun J51 K51 h => ?_)
  · refine xx_aload_n C 52 rfl 0 dX10_sweepNext_51 rfl rfl ?_
    refine xx_getr (fi := 0) C 55 rfl (by decide) (ceX_135 _ _ _) rfl in_X10 (by decide) rfl rfl w_265 dX10_sweepNext_52 ?_
    refine xx_iload_n C 56 rfl 1 dX10_sweepNext_55 rfl rfl ?_
    refine xx_iconst C 57 rfl dX10_sweepNext_56 ?_
    refine xx_iadd C 58 rfl dX10_sweepNext_57 ?_
    refine xx_puti (fi := 10) (j := 10) C 61 rfl (by decide) (ceX_0 _ _ _) (puX_0_10 _ _ _ _) rfl in_X2 tyX2 tyX2_ok nmX2 (by decide) (Nat.le_of_ble_eq_true rfl) ⟨rfl, rfl, rfl⟩ w_175 dX10_sweepNext_58 h (fun μ58 h => ?_)
    refine xx_aload_n C 62 rfl 0 dX10_sweepNext_61 rfl rfl ?_
    refine xx_getr (fi := 0) C 65 rfl (by decide) (ceX_135 _ _ _) rfl in_X10 (by decide) rfl rfl w_265 dX10_sweepNext_62 ?_
    refine xx_geti (fi := 10) (j := 10) C 68 rfl (by decide) (ceX_0 _ _ _) rfl in_X2 (by decide) rfl rfl w_175 dX10_sweepNext_65 h (fun v65 h => ?_)
    refine xx_bipush C 70 rfl dX10_sweepNext_68 (by decide) ?_
    refine xx_icmp_lt (tgt := 102) C 73 rfl dX10_sweepNext_70 (by decide) h (fun h => ?_) (fun h => ?_)
    · exact xx_vret C E rfl ⟨Nat.le_of_ble_eq_true rfl, Nat.le_of_ble_eq_true rfl⟩ dX10_sweepNext_102 h
    · refine xx_aload_n C 74 rfl 0 dX10_sweepNext_73 rfl rfl ?_
      refine xx_getr (fi := 0) C 77 rfl (by decide) (ceX_135 _ _ _) rfl in_X10 (by decide) rfl rfl w_265 dX10_sweepNext_74 ?_
      refine xx_iconst C 78 rfl dX10_sweepNext_77 ?_
      refine xx_puti (fi := 10) (j := 10) C 81 rfl (by decide) (ceX_0 _ _ _) (puX_0_10 _ _ _ _) rfl in_X2 tyX2 tyX2_ok nmX2 (by decide) (Nat.le_of_ble_eq_true rfl) ⟨rfl, rfl, rfl⟩ w_175 dX10_sweepNext_78 h (fun μ78 h => ?_)
      refine xx_aload_n C 82 rfl 0 dX10_sweepNext_81 rfl rfl ?_
      refine xx_getr (fi := 0) C 85 rfl (by decide) (ceX_135 _ _ _) rfl in_X10 (by decide) rfl rfl w_265 dX10_sweepNext_82 ?_
      refine xx_iconst C 86 rfl dX10_sweepNext_85 ?_
      refine xx_puti (fi := 9) (j := 9) C 89 rfl (by decide) (ceX_0 _ _ _) (puX_0_9 _ _ _ _) rfl in_X2 tyX2 tyX2_ok nmX2 (by decide) (Nat.le_of_ble_eq_true rfl) ⟨rfl, rfl, rfl⟩ w_170 dX10_sweepNext_86 h (fun μ86 h => ?_)
      refine xx_aload_n C 90 rfl 0 dX10_sweepNext_89 rfl rfl ?_
      refine xx_getr (fi := 0) C 93 rfl (by decide) (ceX_135 _ _ _) rfl in_X10 (by decide) rfl rfl w_265 dX10_sweepNext_90 ?_
      refine xx_dup C 94 rfl dX10_sweepNext_93 rfl ?_
      refine xx_geti (fi := 11) (j := 11) C 97 rfl (by decide) (ceX_0 _ _ _) rfl in_X2 (by decide) rfl rfl w_179 dX10_sweepNext_94 h (fun v94 h => ?_)
      refine xx_iconst C 98 rfl dX10_sweepNext_97 ?_
      refine xx_iadd C 99 rfl dX10_sweepNext_98 ?_
      refine xx_puti (fi := 11) (j := 11) C 102 rfl (by decide) (ceX_0 _ _ _) (puX_0_11 _ _ _ _) rfl in_X2 tyX2 tyX2_ok nmX2 (by decide) (Nat.le_of_ble_eq_true rfl) ⟨rfl, rfl, rfl⟩ w_179 dX10_sweepNext_99 h (fun μ99 h => ?_)
      exact xx_vret C E rfl ⟨Nat.le_of_ble_eq_true rfl, Nat.le_of_ble_eq_true rfl⟩ dX10_sweepNext_102 h
  · refine xx_if_eq (tgt := 30) C 19 rfl dX10_sweepNext_16 (by decide) h (fun h => ?_) (fun h => ?_)
    · refine xx_aload_n C 31 rfl 1 dX10_sweepNext_30 rfl rfl ?_
      refine xx_getr (fi := 0) C 34 rfl (by decide) (ceX_135 _ _ _) rfl in_X10 (by decide) rfl rfl w_265 dX10_sweepNext_31 ?_
      refine xx_iload_n C 35 rfl 0 dX10_sweepNext_34 rfl rfl ?_
      refine xx_cVip (As := [.int (iI v4)]) (st := []) (o := 0) C 38 rfl (by decide) (ceX_0 _ _ _) rfl rfl ca_X2_hasUrn cv_X2_hasUrn w_614 rfl ⟨Nat.le_of_ble_eq_true rfl, Nat.le_of_ble_eq_true rfl⟩ ⟨Nat.le_of_ble_eq_true rfl, Nat.le_of_ble_eq_true rfl⟩ (Nat.le_of_ble_eq_true rfl) dX10_sweepNext_35 (fun v35 e9 => c_X2_hasUrn _ _ v35 e9) h (fun v35 h => ?_) rfl
      refine xx_if_eq (tgt := 51) C 41 rfl dX10_sweepNext_38 (by decide) h (fun h => ?_) (fun h => ?_)
      · refine xx_sub [1, 0] rfl ?_
        exact K51 μ h
      · refine xx_aload_n C 42 rfl 1 dX10_sweepNext_41 rfl rfl ?_
        refine xx_getr (fi := 0) C 45 rfl (by decide) (ceX_135 _ _ _) rfl in_X10 (by decide) rfl rfl w_265 dX10_sweepNext_42 ?_
        refine xx_getr (fi := 3) C 48 rfl (by decide) (ceX_0 _ _ _) rfl in_X2 (by decide) rfl rfl w_152 dX10_sweepNext_45 ?_
        refine xx_iload_n C 49 rfl 0 dX10_sweepNext_48 rfl rfl ?_
        refine xx_iconst C 50 rfl dX10_sweepNext_49 ?_
        refine xx_iastore C 51 rfl (by decide) (fun row => ceX_4 _ _ row) (by decide) dX10_sweepNext_50 h (fun μ50 h => ?_)
        refine xx_sub [1, 0] rfl ?_
        exact K51 μ50 h
    · refine xx_aload_n C 20 rfl 1 dX10_sweepNext_19 rfl rfl ?_
      refine xx_getr (fi := 0) C 23 rfl (by decide) (ceX_135 _ _ _) rfl in_X10 (by decide) rfl rfl w_265 dX10_sweepNext_20 ?_
      refine xx_iload_n C 24 rfl 0 dX10_sweepNext_23 rfl rfl ?_
      refine xx_cVv (As := [.int (iI v4)]) (st := []) (o := 0) C 27 rfl (by decide) (ceX_0 _ _ _) rfl rfl ca_X2_free cv_X2_free w_609 rfl ⟨Nat.le_of_ble_eq_true rfl, Nat.le_of_ble_eq_true rfl⟩ ⟨Nat.le_of_ble_eq_true rfl, Nat.le_of_ble_eq_true rfl⟩ (Nat.le_of_ble_eq_true rfl) dX10_sweepNext_24 (fun μ24 e9 => c_X2_free _ _ μ24 e9) h (fun μ24 h => ?_) rfl
      refine xx_goto C 51 dX10_sweepNext_27 (by decide) ?_
      refine xx_sub [1, 0] rfl ?_
      exact K51 μ24 h

def f_X10_doPartsUntilOver_L2 (a1 : Int) : Nat → Int → mu_T → Option (Int × mu_T)
  | 0, _, _ => none
  | fu2 + 1, x2_2, μ2 => lt_ x2_2 a1
      (nm_ (μ2 0 9) (fun v11 => eq_ v11 0
      (some (x2_2, μ2))
      (nm_ (μ2 0 9) (fun v21 => jn_ (φ := mu_T → Option (Int × mu_T)) (fun μ66 => nm_ (μ66 0 16) (fun v71 => wf_ μ66 0 16 (v71 + 1) (fun μ76 => nm_ (x2_2 + 1) (fun n79 => (f_X10_doPartsUntilOver_L2 a1 fu2) n79 μ76))))
      (fun J66 => eq_ v21 2
      (bd_ (f_X10_sweepNext μ2) (fun μ29 => J66 μ29))
      (nm_ (μ2 8 1) (fun v42 => lt_ 0 v42
      (bd_ (f_X10_blackenFirst μ2) (fun μ49 => J66 μ49))
      (bp_ (f_X10_makeRitesDue μ2) (fun v56 μ56 => eq_ v56 0
      (bd_ (f_X10_beginSweep μ56) (fun μ63 => J66 μ63))
      (J66 μ56))))))))))
      (some (x2_2, μ2))
def f_X10_doPartsUntilOver (μ : mu_T) (a1 : Int) : Option (Int × mu_T) :=
  f_X10_doPartsUntilOver_L2 a1 20000 0 μ
set_option maxHeartbeats 4000000 in
set_option maxRecDepth 100000 in
theorem c_X10_doPartsUntilOver {G : gp_} {ad : Nat → Nat} (μ : mu_T) (a1 : Int) (a : Int) (μr : mu_T) (h : f_X10_doPartsUntilOver μ a1 = some (a, μr)) : mi_ yX10_doPartsUntilOver cX10_doPartsUntilOver 3 (some .int) ({ frames := 3, cells := 0, slots := 0, locals := 64 } : Room) G 151 ad (ceX G ad) [.ref (ad 135), .int (iI a1)] μ a μr := by
  refine mi_in (own := "UrnHeap$Sexton") (lv := [(0, .ref (ad 135)), (1, .int (iI a1))]) (by decide) rfl rfl (Nat.le_of_ble_eq_true rfl) (fun X C E => ?_)
  unfold f_X10_doPartsUntilOver at h
  refine xx_iconst C 1 rfl dX10_doPartsUntilOver_0 ?_
  refine xx_istore_n (lv1 := [(2, .int (iI 0)), (0, .ref (ad 135)), (1, .int (iI a1))]) C 2 rfl (by decide) dX10_doPartsUntilOver_1 rfl rfl ?_
  have L2 : ∀ (fu2 : Nat) (x2_2 : Int) (μ2 : mu_T), f_X10_doPartsUntilOver_L2 a1 fu2 x2_2 μ2 = some (a, μr) → wx_ G X 151 ad (ceX G ad) μ2 0 0 2 [(0, .ref (ad 135)), (1, .int (iI a1)), (2, .int (iI x2_2))] [] := by
    intro fu2
    induction fu2 with
    | zero => intro x2_2 μ2 h; exact nn_ h
    | succ fu2 K2 =>
      intro x2_2 μ2 h
      rw [f_X10_doPartsUntilOver_L2] at h
      generalize f_X10_doPartsUntilOver_L2 a1 fu2 = R2 at K2 h
      refine xx_iload_n C 3 rfl 2 dX10_doPartsUntilOver_2 rfl rfl ?_
      refine xx_iload_n C 4 rfl 1 dX10_doPartsUntilOver_3 rfl rfl ?_
      refine xx_icmp_ge (tgt := 85) C 7 rfl dX10_doPartsUntilOver_4 (by decide) h (fun h => ?_) (fun h => ?_)
      · refine xx_iload_n C 86 rfl 2 dX10_doPartsUntilOver_85 rfl rfl ?_
        exact xx_iret C E rfl ⟨Nat.le_of_ble_eq_true rfl, Nat.le_of_ble_eq_true rfl⟩ dX10_doPartsUntilOver_86 h
      · refine xx_aload_n C 8 rfl 0 dX10_doPartsUntilOver_7 rfl rfl ?_
        refine xx_getr (fi := 0) C 11 rfl (by decide) (ceX_135 _ _ _) rfl in_X10 (by decide) rfl rfl w_265 dX10_doPartsUntilOver_8 ?_
        refine xx_geti (fi := 9) (j := 9) C 14 rfl (by decide) (ceX_0 _ _ _) rfl in_X2 (by decide) rfl rfl w_170 dX10_doPartsUntilOver_11 h (fun v11 h => ?_)
        refine xx_if_eq (tgt := 85) C 17 rfl dX10_doPartsUntilOver_14 (by decide) h (fun h => ?_) (fun h => ?_)
        · refine xx_iload_n C 86 rfl 2 dX10_doPartsUntilOver_85 rfl rfl ?_
          exact xx_iret C E rfl ⟨Nat.le_of_ble_eq_true rfl, Nat.le_of_ble_eq_true rfl⟩ dX10_doPartsUntilOver_86 h
        · refine xx_aload_n C 18 rfl 0 dX10_doPartsUntilOver_17 rfl rfl ?_
          refine xx_getr (fi := 0) C 21 rfl (by decide) (ceX_135 _ _ _) rfl in_X10 (by decide) rfl rfl w_265 dX10_doPartsUntilOver_18 ?_
          refine xx_geti (fi := 9) (j := 9) C 24 rfl (by decide) (ceX_0 _ _ _) rfl in_X2 (by decide) rfl rfl w_170 dX10_doPartsUntilOver_21 h (fun v21 h => ?_)
          refine xx_iconst C 25 rfl dX10_doPartsUntilOver_24 ?_
          refine jn_r (fun J => ∀ (μ66 : mu_T), J μ66 = some (a, μr) → wx_ G X 151 ad (ceX G ad) μ66 0 0 66 [(0, .ref (ad 135)), (1, .int (iI a1)), (2, .int (iI x2_2))] []) h (fun μ66 h => ?_) (fun J66 K66 h => ?_)
          · refine xx_aload_n C 67 rfl 0 dX10_doPartsUntilOver_66 rfl rfl ?_
            refine xx_getr (fi := 0) C 70 rfl (by decide) (ceX_135 _ _ _) rfl in_X10 (by decide) rfl rfl w_265 dX10_doPartsUntilOver_67 ?_
            refine xx_dup C 71 rfl dX10_doPartsUntilOver_70 rfl ?_
            refine xx_geti (fi := 16) (j := 16) C 74 rfl (by decide) (ceX_0 _ _ _) rfl in_X2 (by decide) rfl rfl w_194 dX10_doPartsUntilOver_71 h (fun v71 h => ?_)
            refine xx_iconst C 75 rfl dX10_doPartsUntilOver_74 ?_
            refine xx_iadd C 76 rfl dX10_doPartsUntilOver_75 ?_
            refine xx_puti (fi := 16) (j := 16) C 79 rfl (by decide) (ceX_0 _ _ _) (puX_0_16 _ _ _ _) rfl in_X2 tyX2 tyX2_ok nmX2 (by decide) (Nat.le_of_ble_eq_true rfl) ⟨rfl, rfl, rfl⟩ w_194 dX10_doPartsUntilOver_76 h (fun μ76 h => ?_)
            refine xx_iincn C 82 rfl 2 (by decide) dX10_doPartsUntilOver_79 rfl h (fun n79 h => ?_)
            refine xx_lv (lv1 := [(2, .int (iI n79)), (0, .ref (ad 135)), (1, .int (iI a1))]) rfl ?_
            refine xx_goto C 2 dX10_doPartsUntilOver_82 (by decide) ?_
            refine xx_sub [1, 2, 0] rfl ?_
            exact K2 n79 μ76 h
          · refine xx_icmp_ne (tgt := 35) C 28 rfl dX10_doPartsUntilOver_25 (by decide) h (fun h => ?_) (fun h => ?_)
            · refine xx_aload_n C 36 rfl 0 dX10_doPartsUntilOver_35 rfl rfl ?_
              refine xx_getr (fi := 0) C 39 rfl (by decide) (ceX_135 _ _ _) rfl in_X10 (by decide) rfl rfl w_265 dX10_doPartsUntilOver_36 ?_
              refine xx_getr (fi := 7) C 42 rfl (by decide) (ceX_0 _ _ _) rfl in_X2 (by decide) rfl rfl w_164 dX10_doPartsUntilOver_39 ?_
              refine xx_geti (fi := 1) (j := 1) C 45 rfl (by decide) (ceX_8 _ _ _) rfl in_X9 (by decide) rfl rfl w_124 dX10_doPartsUntilOver_42 h (fun v42 h => ?_)
              refine xx_if_le (tgt := 55) C 48 rfl dX10_doPartsUntilOver_45 (by decide) h (fun h => ?_) (fun h => ?_)
              · refine xx_aload_n C 56 rfl 0 dX10_doPartsUntilOver_55 rfl rfl ?_
                refine xx_cVi (As := []) (st := []) (o := 135) C 59 rfl (by decide) (ceX_135 _ _ _) rfl rfl ca_X10_makeRitesDue cv_X10_makeRitesDue w_625 rfl ⟨Nat.le_of_ble_eq_true rfl, Nat.le_of_ble_eq_true rfl⟩ ⟨Nat.le_of_ble_eq_true rfl, Nat.le_of_ble_eq_true rfl⟩ (Nat.le_of_ble_eq_true rfl) dX10_doPartsUntilOver_56 (fun v56 μ56 e9 => c_X10_makeRitesDue _ v56 μ56 e9) h (fun v56 μ56 h => ?_) rfl
                refine xx_if_ne (tgt := 66) C 62 rfl dX10_doPartsUntilOver_59 (by decide) h (fun h => ?_) (fun h => ?_)
                · exact K66 μ56 h
                · refine xx_aload_n C 63 rfl 0 dX10_doPartsUntilOver_62 rfl rfl ?_
                  refine xx_cVv (As := []) (st := []) (o := 135) C 66 rfl (by decide) (ceX_135 _ _ _) rfl rfl ca_X10_beginSweep cv_X10_beginSweep w_630 rfl ⟨Nat.le_of_ble_eq_true rfl, Nat.le_of_ble_eq_true rfl⟩ ⟨Nat.le_of_ble_eq_true rfl, Nat.le_of_ble_eq_true rfl⟩ (Nat.le_of_ble_eq_true rfl) dX10_doPartsUntilOver_63 (fun μ63 e9 => c_X10_beginSweep _ μ63 e9) h (fun μ63 h => ?_) rfl
                  exact K66 μ63 h
              · refine xx_aload_n C 49 rfl 0 dX10_doPartsUntilOver_48 rfl rfl ?_
                refine xx_cVv (As := []) (st := []) (o := 135) C 52 rfl (by decide) (ceX_135 _ _ _) rfl rfl ca_X10_blackenFirst cv_X10_blackenFirst w_615 rfl ⟨Nat.le_of_ble_eq_true rfl, Nat.le_of_ble_eq_true rfl⟩ ⟨Nat.le_of_ble_eq_true rfl, Nat.le_of_ble_eq_true rfl⟩ (Nat.le_of_ble_eq_true rfl) dX10_doPartsUntilOver_49 (fun μ49 e9 => c_X10_blackenFirst _ μ49 e9) h (fun μ49 h => ?_) rfl
                refine xx_goto C 66 dX10_doPartsUntilOver_52 (by decide) ?_
                exact K66 μ49 h
            · refine xx_aload_n C 29 rfl 0 dX10_doPartsUntilOver_28 rfl rfl ?_
              refine xx_cVv (As := []) (st := []) (o := 135) C 32 rfl (by decide) (ceX_135 _ _ _) rfl rfl ca_X10_sweepNext cv_X10_sweepNext w_604 rfl ⟨Nat.le_of_ble_eq_true rfl, Nat.le_of_ble_eq_true rfl⟩ ⟨Nat.le_of_ble_eq_true rfl, Nat.le_of_ble_eq_true rfl⟩ (Nat.le_of_ble_eq_true rfl) dX10_doPartsUntilOver_29 (fun μ29 e9 => c_X10_sweepNext _ μ29 e9) h (fun μ29 h => ?_) rfl
              refine xx_goto C 66 dX10_doPartsUntilOver_32 (by decide) ?_
              exact K66 μ29 h
  refine xx_sub [1, 2, 0] rfl ?_
  exact L2 _ _ _ h

def f_X10_doParts (μ : mu_T) (a1 : Int) : Option (Int × mu_T) :=
  lt_ a1 1
      (some ((-12), μ))
      (lt_ 99 a1
      (some ((-12), μ))
      (nm_ (μ 0 9) (fun v18 => eq_ v18 0
      (nm_ (μ 0 11) (fun v33 => bp_ (f_X8_refuse μ 5 v33) (fun v36 μ36 => some (v36, μ36))))
      (bp_ (f_X10_doPartsUntilOver μ a1) (fun v42 μ42 => some (v42, μ42))))))
set_option maxHeartbeats 4000000 in
set_option maxRecDepth 100000 in
theorem c_X10_doParts {G : gp_} {ad : Nat → Nat} (μ : mu_T) (a1 : Int) (a : Int) (μr : mu_T) (h : f_X10_doParts μ a1 = some (a, μr)) : mi_ yX10_doParts cX10_doParts 2 (some .int) ({ frames := 4, cells := 0, slots := 0, locals := 86 } : Room) G 151 ad (ceX G ad) [.ref (ad 135), .int (iI a1)] μ a μr := by
  refine mi_in (own := "UrnHeap$Sexton") (lv := [(0, .ref (ad 135)), (1, .int (iI a1))]) (by decide) rfl rfl (Nat.le_of_ble_eq_true rfl) (fun X C E => ?_)
  unfold f_X10_doParts at h
  refine xx_iload_n C 1 rfl 1 dX10_doParts_0 rfl rfl ?_
  refine xx_iconst C 2 rfl dX10_doParts_1 ?_
  refine xx_icmp_lt (tgt := 11) C 5 rfl dX10_doParts_2 (by decide) h (fun h => ?_) (fun h => ?_)
  · refine xx_bipush C 13 rfl dX10_doParts_11 (by decide) ?_
    exact xx_iret C E rfl ⟨Nat.le_of_ble_eq_true rfl, Nat.le_of_ble_eq_true rfl⟩ dX10_doParts_13 h
  · refine xx_iload_n C 6 rfl 1 dX10_doParts_5 rfl rfl ?_
    refine xx_bipush C 8 rfl dX10_doParts_6 (by decide) ?_
    refine xx_icmp_le (tgt := 14) C 11 rfl dX10_doParts_8 (by decide) h (fun h => ?_) (fun h => ?_)
    · refine xx_aload_n C 15 rfl 0 dX10_doParts_14 rfl rfl ?_
      refine xx_getr (fi := 0) C 18 rfl (by decide) (ceX_135 _ _ _) rfl in_X10 (by decide) rfl rfl w_265 dX10_doParts_15 ?_
      refine xx_geti (fi := 9) (j := 9) C 21 rfl (by decide) (ceX_0 _ _ _) rfl in_X2 (by decide) rfl rfl w_170 dX10_doParts_18 h (fun v18 h => ?_)
      refine xx_if_ne (tgt := 40) C 24 rfl dX10_doParts_21 (by decide) h (fun h => ?_) (fun h => ?_)
      · refine xx_aload_n C 41 rfl 0 dX10_doParts_40 rfl rfl ?_
        refine xx_iload_n C 42 rfl 1 dX10_doParts_41 rfl rfl ?_
        refine xx_cVi (As := [.int (iI a1)]) (st := []) (o := 135) C 45 rfl (by decide) (ceX_135 _ _ _) rfl rfl ca_X10_doPartsUntilOver cv_X10_doPartsUntilOver w_600 rfl ⟨Nat.le_of_ble_eq_true rfl, Nat.le_of_ble_eq_true rfl⟩ ⟨Nat.le_of_ble_eq_true rfl, Nat.le_of_ble_eq_true rfl⟩ (Nat.le_of_ble_eq_true rfl) dX10_doParts_42 (fun v42 μ42 e9 => c_X10_doPartsUntilOver _ _ v42 μ42 e9) h (fun v42 μ42 h => ?_) rfl
        exact xx_iret C E rfl ⟨Nat.le_of_ble_eq_true rfl, Nat.le_of_ble_eq_true rfl⟩ dX10_doParts_45 h
      · refine xx_aload_n C 25 rfl 0 dX10_doParts_24 rfl rfl ?_
        refine xx_getr (fi := 1) C 28 rfl (by decide) (ceX_135 _ _ _) rfl in_X10 (by decide) rfl rfl w_266 dX10_doParts_25 ?_
        refine xx_iconst C 29 rfl dX10_doParts_28 ?_
        refine xx_aload_n C 30 rfl 0 dX10_doParts_29 rfl rfl ?_
        refine xx_getr (fi := 0) C 33 rfl (by decide) (ceX_135 _ _ _) rfl in_X10 (by decide) rfl rfl w_265 dX10_doParts_30 ?_
        refine xx_geti (fi := 11) (j := 11) C 36 rfl (by decide) (ceX_0 _ _ _) rfl in_X2 (by decide) rfl rfl w_179 dX10_doParts_33 h (fun v33 h => ?_)
        refine xx_cVi (As := [.int (iI 5), .int (iI v33)]) (st := []) (o := 133) C 39 rfl (by decide) (ceX_133 _ _ _) rfl rfl ca_X8_refuse cv_X8_refuse w_582 rfl ⟨Nat.le_of_ble_eq_true rfl, Nat.le_of_ble_eq_true rfl⟩ ⟨Nat.le_of_ble_eq_true rfl, Nat.le_of_ble_eq_true rfl⟩ (Nat.le_of_ble_eq_true rfl) dX10_doParts_36 (fun v36 μ36 e9 => c_X8_refuse _ _ _ v36 μ36 e9) h (fun v36 μ36 h => ?_) rfl
        exact xx_iret C E rfl ⟨Nat.le_of_ble_eq_true rfl, Nat.le_of_ble_eq_true rfl⟩ dX10_doParts_39 h
    · refine xx_bipush C 13 rfl dX10_doParts_11 (by decide) ?_
      exact xx_iret C E rfl ⟨Nat.le_of_ble_eq_true rfl, Nat.le_of_ble_eq_true rfl⟩ dX10_doParts_13 h

def f_X10_endRound (μ : mu_T)  : Option (Int × mu_T) :=
  nm_ (μ 0 9) (fun v4 => jn_ (φ := mu_T → Option (Int × mu_T)) (fun μ14 => nm_ (μ14 0 13) (fun v18 => bp_ (f_X10_doPartsUntilOver μ14 99) (fun v25 μ25 => nm_ (μ25 0 13) (fun v33 => some ((v33 - v18), μ25)))))
      (fun J14 => eq_ v4 0
      (bd_ (f_X10_markRoots μ) (fun μ11 => J14 μ11))
      (J14 μ)))
set_option maxHeartbeats 4000000 in
set_option maxRecDepth 100000 in
theorem c_X10_endRound {G : gp_} {ad : Nat → Nat} (μ : mu_T)  (a : Int) (μr : mu_T) (h : f_X10_endRound μ  = some (a, μr)) : mi_ yX10_endRound cX10_endRound 2 (some .int) ({ frames := 4, cells := 0, slots := 0, locals := 86 } : Room) G 151 ad (ceX G ad) [.ref (ad 135)] μ a μr := by
  refine mi_in (own := "UrnHeap$Sexton") (lv := [(0, .ref (ad 135))]) (by decide) rfl rfl (Nat.le_of_ble_eq_true rfl) (fun X C E => ?_)
  unfold f_X10_endRound at h
  refine xx_aload_n C 1 rfl 0 dX10_endRound_0 rfl rfl ?_
  refine xx_getr (fi := 0) C 4 rfl (by decide) (ceX_135 _ _ _) rfl in_X10 (by decide) rfl rfl w_265 dX10_endRound_1 ?_
  refine xx_geti (fi := 9) (j := 9) C 7 rfl (by decide) (ceX_0 _ _ _) rfl in_X2 (by decide) rfl rfl w_170 dX10_endRound_4 h (fun v4 h => ?_)
  refine jn_r (fun J => ∀ (μ14 : mu_T), J μ14 = some (a, μr) → wx_ G X 151 ad (ceX G ad) μ14 0 0 14 [(0, .ref (ad 135))] []) h (fun μ14 h => ?_) (fun J14 K14 h => ?_)
  · refine xx_aload_n C 15 rfl 0 dX10_endRound_14 rfl rfl ?_
    refine xx_getr (fi := 0) C 18 rfl (by decide) (ceX_135 _ _ _) rfl in_X10 (by decide) rfl rfl w_265 dX10_endRound_15 ?_
    refine xx_geti (fi := 13) (j := 13) C 21 rfl (by decide) (ceX_0 _ _ _) rfl in_X2 (by decide) rfl rfl w_185 dX10_endRound_18 h (fun v18 h => ?_)
    refine xx_istore_n (lv1 := [(1, .int (iI v18)), (0, .ref (ad 135))]) C 22 rfl (by decide) dX10_endRound_21 rfl rfl ?_
    refine xx_aload_n C 23 rfl 1 dX10_endRound_22 rfl rfl ?_
    refine xx_bipush C 25 rfl dX10_endRound_23 (by decide) ?_
    refine xx_cVi (As := [.int (iI 99)]) (st := []) (o := 135) C 28 rfl (by decide) (ceX_135 _ _ _) rfl rfl ca_X10_doPartsUntilOver cv_X10_doPartsUntilOver w_600 rfl ⟨Nat.le_of_ble_eq_true rfl, Nat.le_of_ble_eq_true rfl⟩ ⟨Nat.le_of_ble_eq_true rfl, Nat.le_of_ble_eq_true rfl⟩ (Nat.le_of_ble_eq_true rfl) dX10_endRound_25 (fun v25 μ25 e9 => c_X10_doPartsUntilOver _ _ v25 μ25 e9) h (fun v25 μ25 h => ?_) rfl
    refine xx_pop C 29 rfl dX10_endRound_28 rfl ?_
    refine xx_aload_n C 30 rfl 1 dX10_endRound_29 rfl rfl ?_
    refine xx_getr (fi := 0) C 33 rfl (by decide) (ceX_135 _ _ _) rfl in_X10 (by decide) rfl rfl w_265 dX10_endRound_30 ?_
    refine xx_geti (fi := 13) (j := 13) C 36 rfl (by decide) (ceX_0 _ _ _) rfl in_X2 (by decide) rfl rfl w_185 dX10_endRound_33 h (fun v33 h => ?_)
    refine xx_iload_n C 37 rfl 0 dX10_endRound_36 rfl rfl ?_
    refine xx_isub C 38 rfl dX10_endRound_37 ?_
    exact xx_iret C E rfl ⟨Nat.le_of_ble_eq_true rfl, Nat.le_of_ble_eq_true rfl⟩ dX10_endRound_38 h
  · refine xx_if_ne (tgt := 14) C 10 rfl dX10_endRound_7 (by decide) h (fun h => ?_) (fun h => ?_)
    · exact K14 μ h
    · refine xx_aload_n C 11 rfl 0 dX10_endRound_10 rfl rfl ?_
      refine xx_cVv (As := []) (st := []) (o := 135) C 14 rfl (by decide) (ceX_135 _ _ _) rfl rfl ca_X10_markRoots cv_X10_markRoots w_583 rfl ⟨Nat.le_of_ble_eq_true rfl, Nat.le_of_ble_eq_true rfl⟩ ⟨Nat.le_of_ble_eq_true rfl, Nat.le_of_ble_eq_true rfl⟩ (Nat.le_of_ble_eq_true rfl) dX10_endRound_11 (fun μ11 e9 => c_X10_markRoots _ μ11 e9) h (fun μ11 h => ?_) rfl
      exact K14 μ11 h

def f_X9_takeFirst_o10 (μ : mu_T)  : Option (Int × mu_T) :=
  nm_ (μ 10 1) (fun v1 => lt_ 0 v1
      (rd_ μ 11 24 0 (fun v15 => nm_ (μ 10 1) (fun v19 => wf_ μ 10 1 (v19 - 1) (fun μ24 => nm_ (μ24 10 1) (fun v38 => ac_ μ24 11 24 1 11 24 0 v38 (fun μ41 => some (v15, μ41)))))))
      (some ((-15), μ)))
set_option maxHeartbeats 4000000 in
set_option maxRecDepth 100000 in
theorem c_X9_takeFirst_o10 {G : gp_} {ad : Nat → Nat} (μ : mu_T)  (a : Int) (μr : mu_T) (h : f_X9_takeFirst_o10 μ  = some (a, μr)) : mi_ yX9_takeFirst cX9_takeFirst 2 (some .int) ({ frames := 1, cells := 0, slots := 0, locals := 18 } : Room) G 151 ad (ceX G ad) [.ref (ad 10)] μ a μr := by
  refine mi_in (own := "UrnHeap$Row") (lv := [(0, .ref (ad 10))]) (by decide) rfl rfl (Nat.le_of_ble_eq_true rfl) (fun X C E => ?_)
  unfold f_X9_takeFirst_o10 at h
  refine xx_aload_n C 1 rfl 0 dX9_takeFirst_0 rfl rfl ?_
  refine xx_geti (fi := 1) (j := 1) C 4 rfl (by decide) (ceX_10 _ _ _) rfl in_X9 (by decide) rfl rfl w_123 dX9_takeFirst_1 h (fun v1 h => ?_)
  refine xx_if_gt (tgt := 10) C 7 rfl dX9_takeFirst_4 (by decide) h (fun h => ?_) (fun h => ?_)
  · refine xx_aload_n C 11 rfl 0 dX9_takeFirst_10 rfl rfl ?_
    refine xx_getr (fi := 0) C 14 rfl (by decide) (ceX_10 _ _ _) rfl in_X9 (by decide) rfl rfl w_122 dX9_takeFirst_11 ?_
    refine xx_iconst C 15 rfl dX9_takeFirst_14 ?_
    refine xx_iaload C 16 rfl (by decide) (fun row => ceX_11 _ _ row) (by decide) dX9_takeFirst_15 h (fun v15 h => ?_)
    refine xx_istore_n (lv1 := [(1, .int (iI v15)), (0, .ref (ad 10))]) C 17 rfl (by decide) dX9_takeFirst_16 rfl rfl ?_
    refine xx_aload_n C 18 rfl 1 dX9_takeFirst_17 rfl rfl ?_
    refine xx_dup C 19 rfl dX9_takeFirst_18 rfl ?_
    refine xx_geti (fi := 1) (j := 1) C 22 rfl (by decide) (ceX_10 _ _ _) rfl in_X9 (by decide) rfl rfl w_123 dX9_takeFirst_19 h (fun v19 h => ?_)
    refine xx_iconst C 23 rfl dX9_takeFirst_22 ?_
    refine xx_isub C 24 rfl dX9_takeFirst_23 ?_
    refine xx_puti (fi := 1) (j := 1) C 27 rfl (by decide) (ceX_10 _ _ _) (puX_10_1 _ _ _ _) rfl in_X9 tyX9 tyX9_ok nmX9 (by decide) (Nat.le_of_ble_eq_true rfl) ⟨rfl, rfl, rfl⟩ w_123 dX9_takeFirst_24 h (fun μ24 h => ?_)
    refine xx_aload_n C 28 rfl 1 dX9_takeFirst_27 rfl rfl ?_
    refine xx_getr (fi := 0) C 31 rfl (by decide) (ceX_10 _ _ _) rfl in_X9 (by decide) rfl rfl w_122 dX9_takeFirst_28 ?_
    refine xx_iconst C 32 rfl dX9_takeFirst_31 ?_
    refine xx_aload_n C 33 rfl 1 dX9_takeFirst_32 rfl rfl ?_
    refine xx_getr (fi := 0) C 36 rfl (by decide) (ceX_10 _ _ _) rfl in_X9 (by decide) rfl rfl w_122 dX9_takeFirst_33 ?_
    refine xx_iconst C 37 rfl dX9_takeFirst_36 ?_
    refine xx_aload_n C 38 rfl 1 dX9_takeFirst_37 rfl rfl ?_
    refine xx_geti (fi := 1) (j := 1) C 41 rfl (by decide) (ceX_10 _ _ _) rfl in_X9 (by decide) rfl rfl w_123 dX9_takeFirst_38 h (fun v38 h => ?_)
    refine xx_acopy C 44 rfl (by decide) (fun row => ceX_11 _ _ row) (by decide) (fun row => ceX_11 _ _ row) (by decide) ⟨w_440, w_435, w_434, w_92⟩ ⟨Nat.le_of_ble_eq_true rfl, Nat.le_of_ble_eq_true rfl⟩ dX9_takeFirst_41 h (fun μ41 h => ?_)
    refine xx_iload_n C 45 rfl 0 dX9_takeFirst_44 rfl rfl ?_
    exact xx_iret C E rfl ⟨Nat.le_of_ble_eq_true rfl, Nat.le_of_ble_eq_true rfl⟩ dX9_takeFirst_45 h
  · refine xx_bipush C 9 rfl dX9_takeFirst_7 (by decide) ?_
    exact xx_iret C E rfl ⟨Nat.le_of_ble_eq_true rfl, Nat.le_of_ble_eq_true rfl⟩ dX9_takeFirst_9 h

def f_X10_doRite (μ : mu_T)  : Option (Int × mu_T) :=
  bp_ (f_X9_takeFirst_o10 μ) (fun v7 μ7 => bd_ (f_X11_isCell μ7 v7) (fun v12 => eq_ v12 0
      (nm_ (μ7 0 14) (fun v28 => bp_ (f_X8_refuse μ7 6 v28) (fun v31 μ31 => some (v31, μ31))))
      (wr_ μ7 3 24 v7 0 (fun μ44 => nm_ (μ44 0 14) (fun v50 => wf_ μ44 0 14 (v50 + 1) (fun μ55 => some (v7, μ55)))))))
set_option maxHeartbeats 4000000 in
set_option maxRecDepth 100000 in
theorem c_X10_doRite {G : gp_} {ad : Nat → Nat} (μ : mu_T)  (a : Int) (μr : mu_T) (h : f_X10_doRite μ  = some (a, μr)) : mi_ yX10_doRite cX10_doRite 2 (some .int) ({ frames := 2, cells := 0, slots := 0, locals := 39 } : Room) G 151 ad (ceX G ad) [.ref (ad 135)] μ a μr := by
  refine mi_in (own := "UrnHeap$Sexton") (lv := [(0, .ref (ad 135))]) (by decide) rfl rfl (Nat.le_of_ble_eq_true rfl) (fun X C E => ?_)
  unfold f_X10_doRite at h
  refine xx_aload_n C 1 rfl 0 dX10_doRite_0 rfl rfl ?_
  refine xx_getr (fi := 0) C 4 rfl (by decide) (ceX_135 _ _ _) rfl in_X10 (by decide) rfl rfl w_265 dX10_doRite_1 ?_
  refine xx_getr (fi := 8) C 7 rfl (by decide) (ceX_0 _ _ _) rfl in_X2 (by decide) rfl rfl w_167 dX10_doRite_4 ?_
  refine xx_cVi (As := []) (st := []) (o := 10) C 10 rfl (by decide) (ceX_10 _ _ _) rfl rfl ca_X9_takeFirst cv_X9_takeFirst w_619 rfl ⟨Nat.le_of_ble_eq_true rfl, Nat.le_of_ble_eq_true rfl⟩ ⟨Nat.le_of_ble_eq_true rfl, Nat.le_of_ble_eq_true rfl⟩ (Nat.le_of_ble_eq_true rfl) dX10_doRite_7 (fun v7 μ7 e9 => c_X9_takeFirst_o10 _ v7 μ7 e9) h (fun v7 μ7 h => ?_) rfl
  refine xx_istore_n (lv1 := [(1, .int (iI v7)), (0, .ref (ad 135))]) C 11 rfl (by decide) dX10_doRite_10 rfl rfl ?_
  refine xx_iload_n C 12 rfl 0 dX10_doRite_11 rfl rfl ?_
  refine xx_cNip (As := [.int (iI v7)]) (st := []) C 15 rfl  ca_X11_isCell cs_X11_isCell 8 rfl rfl ⟨Nat.le_of_ble_eq_true rfl, Nat.le_of_ble_eq_true rfl⟩ ⟨Nat.le_of_ble_eq_true rfl, Nat.le_of_ble_eq_true rfl⟩ (Nat.le_of_ble_eq_true rfl) dX10_doRite_12 (fun v12 e9 => c_X11_isCell _ _ v12 e9) h (fun v12 h => ?_) rfl
  refine xx_if_ne (tgt := 35) C 18 rfl dX10_doRite_15 (by decide) h (fun h => ?_) (fun h => ?_)
  · refine xx_aload_n C 36 rfl 1 dX10_doRite_35 rfl rfl ?_
    refine xx_getr (fi := 0) C 39 rfl (by decide) (ceX_135 _ _ _) rfl in_X10 (by decide) rfl rfl w_265 dX10_doRite_36 ?_
    refine xx_getr (fi := 2) C 42 rfl (by decide) (ceX_0 _ _ _) rfl in_X2 (by decide) rfl rfl w_146 dX10_doRite_39 ?_
    refine xx_iload_n C 43 rfl 0 dX10_doRite_42 rfl rfl ?_
    refine xx_iconst C 44 rfl dX10_doRite_43 ?_
    refine xx_iastore C 45 rfl (by decide) (fun row => ceX_3 _ _ row) (by decide) dX10_doRite_44 h (fun μ44 h => ?_)
    refine xx_aload_n C 46 rfl 1 dX10_doRite_45 rfl rfl ?_
    refine xx_getr (fi := 0) C 49 rfl (by decide) (ceX_135 _ _ _) rfl in_X10 (by decide) rfl rfl w_265 dX10_doRite_46 ?_
    refine xx_dup C 50 rfl dX10_doRite_49 rfl ?_
    refine xx_geti (fi := 14) (j := 14) C 53 rfl (by decide) (ceX_0 _ _ _) rfl in_X2 (by decide) rfl rfl w_188 dX10_doRite_50 h (fun v50 h => ?_)
    refine xx_iconst C 54 rfl dX10_doRite_53 ?_
    refine xx_iadd C 55 rfl dX10_doRite_54 ?_
    refine xx_puti (fi := 14) (j := 14) C 58 rfl (by decide) (ceX_0 _ _ _) (puX_0_14 _ _ _ _) rfl in_X2 tyX2 tyX2_ok nmX2 (by decide) (Nat.le_of_ble_eq_true rfl) ⟨rfl, rfl, rfl⟩ w_188 dX10_doRite_55 h (fun μ55 h => ?_)
    refine xx_iload_n C 59 rfl 0 dX10_doRite_58 rfl rfl ?_
    exact xx_iret C E rfl ⟨Nat.le_of_ble_eq_true rfl, Nat.le_of_ble_eq_true rfl⟩ dX10_doRite_59 h
  · refine xx_aload_n C 19 rfl 1 dX10_doRite_18 rfl rfl ?_
    refine xx_getr (fi := 1) C 22 rfl (by decide) (ceX_135 _ _ _) rfl in_X10 (by decide) rfl rfl w_266 dX10_doRite_19 ?_
    refine xx_bipush C 24 rfl dX10_doRite_22 (by decide) ?_
    refine xx_aload_n C 25 rfl 1 dX10_doRite_24 rfl rfl ?_
    refine xx_getr (fi := 0) C 28 rfl (by decide) (ceX_135 _ _ _) rfl in_X10 (by decide) rfl rfl w_265 dX10_doRite_25 ?_
    refine xx_geti (fi := 14) (j := 14) C 31 rfl (by decide) (ceX_0 _ _ _) rfl in_X2 (by decide) rfl rfl w_188 dX10_doRite_28 h (fun v28 h => ?_)
    refine xx_cVi (As := [.int (iI 6), .int (iI v28)]) (st := []) (o := 133) C 34 rfl (by decide) (ceX_133 _ _ _) rfl rfl ca_X8_refuse cv_X8_refuse w_582 rfl ⟨Nat.le_of_ble_eq_true rfl, Nat.le_of_ble_eq_true rfl⟩ ⟨Nat.le_of_ble_eq_true rfl, Nat.le_of_ble_eq_true rfl⟩ (Nat.le_of_ble_eq_true rfl) dX10_doRite_31 (fun v31 μ31 e9 => c_X8_refuse _ _ _ v31 μ31 e9) h (fun v31 μ31 h => ?_) rfl
    exact xx_iret C E rfl ⟨Nat.le_of_ble_eq_true rfl, Nat.le_of_ble_eq_true rfl⟩ dX10_doRite_34 h

def f_X11_urn (μ : mu_T) (a1 : Int) : Option (Int × mu_T) :=
  bd_ (f_X3_keepBefore μ) (fun μ4 => bp_ (f_X1_makeUrn μ4 a1) (fun v16 μ16 => bp_ (f_X3_settle μ16 v16) (fun v19 μ19 => some (v19, μ19))))
set_option maxHeartbeats 4000000 in
set_option maxRecDepth 100000 in
theorem c_X11_urn {G : gp_} {ad : Nat → Nat} (μ : mu_T) (a1 : Int) (a : Int) (μr : mu_T) (h : f_X11_urn μ a1 = some (a, μr)) : mi_ yX11_urn cX11_urn 2 (some .int) ({ frames := 4, cells := 0, slots := 0, locals := 81 } : Room) G 151 ad (ceX G ad) [.ref (ad 132), .int (iI a1)] μ a μr := by
  refine mi_in (own := "UrnHeap") (lv := [(0, .ref (ad 132)), (1, .int (iI a1))]) (by decide) rfl rfl (Nat.le_of_ble_eq_true rfl) (fun X C E => ?_)
  unfold f_X11_urn at h
  refine xx_aload_n C 1 rfl 0 dX11_urn_0 rfl rfl ?_
  refine xx_getr (fi := 5) C 4 rfl (by decide) (ceX_132 _ _ _) rfl in_X11 (by decide) rfl rfl w_401 dX11_urn_1 ?_
  refine xx_cVv (As := []) (st := []) (o := 138) C 7 rfl (by decide) (ceX_138 _ _ _) rfl rfl ca_X3_keepBefore cv_X3_keepBefore w_425 rfl ⟨Nat.le_of_ble_eq_true rfl, Nat.le_of_ble_eq_true rfl⟩ ⟨Nat.le_of_ble_eq_true rfl, Nat.le_of_ble_eq_true rfl⟩ (Nat.le_of_ble_eq_true rfl) dX11_urn_4 (fun μ4 e9 => c_X3_keepBefore _ μ4 e9) h (fun μ4 h => ?_) rfl
  refine xx_aload_n C 8 rfl 0 dX11_urn_7 rfl rfl ?_
  refine xx_getr (fi := 5) C 11 rfl (by decide) (ceX_132 _ _ _) rfl in_X11 (by decide) rfl rfl w_401 dX11_urn_8 ?_
  refine xx_aload_n C 12 rfl 0 dX11_urn_11 rfl rfl ?_
  refine xx_getr (fi := 2) C 15 rfl (by decide) (ceX_132 _ _ _) rfl in_X11 (by decide) rfl rfl w_398 dX11_urn_12 ?_
  refine xx_iload_n C 16 rfl 1 dX11_urn_15 rfl rfl ?_
  refine xx_cVi (As := [.int (iI a1)]) (st := [.ref (ad 138)]) (o := 134) C 19 rfl (by decide) (ceX_134 _ _ _) rfl rfl ca_X1_makeUrn cv_X1_makeUrn w_441 rfl ⟨Nat.le_of_ble_eq_true rfl, Nat.le_of_ble_eq_true rfl⟩ ⟨Nat.le_of_ble_eq_true rfl, Nat.le_of_ble_eq_true rfl⟩ (Nat.le_of_ble_eq_true rfl) dX11_urn_16 (fun v16 μ16 e9 => c_X1_makeUrn _ _ v16 μ16 e9) h (fun v16 μ16 h => ?_) rfl
  refine xx_cVi (As := [.int (iI v16)]) (st := []) (o := 138) C 22 rfl (by decide) (ceX_138 _ _ _) rfl rfl ca_X3_settle cv_X3_settle w_457 rfl ⟨Nat.le_of_ble_eq_true rfl, Nat.le_of_ble_eq_true rfl⟩ ⟨Nat.le_of_ble_eq_true rfl, Nat.le_of_ble_eq_true rfl⟩ (Nat.le_of_ble_eq_true rfl) dX11_urn_19 (fun v19 μ19 e9 => c_X3_settle _ _ v19 μ19 e9) h (fun v19 μ19 h => ?_) rfl
  exact xx_iret C E rfl ⟨Nat.le_of_ble_eq_true rfl, Nat.le_of_ble_eq_true rfl⟩ dX11_urn_22 h

def f_X11_tie (μ : mu_T) (a1 : Int) (a2 : Int) (a3 : Int) : Option (Int × mu_T) :=
  bd_ (f_X3_keepBefore μ) (fun μ4 => bp_ (f_X1_tieThread μ4 a1 a2 a3) (fun v18 μ18 => bp_ (f_X3_settle μ18 v18) (fun v21 μ21 => some (v21, μ21))))
set_option maxHeartbeats 4000000 in
set_option maxRecDepth 100000 in
theorem c_X11_tie {G : gp_} {ad : Nat → Nat} (μ : mu_T) (a1 : Int) (a2 : Int) (a3 : Int) (a : Int) (μr : mu_T) (h : f_X11_tie μ a1 a2 a3 = some (a, μr)) : mi_ yX11_tie cX11_tie 4 (some .int) ({ frames := 4, cells := 0, slots := 0, locals := 87 } : Room) G 151 ad (ceX G ad) [.ref (ad 132), .int (iI a1), .int (iI a2), .int (iI a3)] μ a μr := by
  refine mi_in (own := "UrnHeap") (lv := [(0, .ref (ad 132)), (1, .int (iI a1)), (2, .int (iI a2)), (3, .int (iI a3))]) (by decide) rfl rfl (Nat.le_of_ble_eq_true rfl) (fun X C E => ?_)
  unfold f_X11_tie at h
  refine xx_aload_n C 1 rfl 0 dX11_tie_0 rfl rfl ?_
  refine xx_getr (fi := 5) C 4 rfl (by decide) (ceX_132 _ _ _) rfl in_X11 (by decide) rfl rfl w_401 dX11_tie_1 ?_
  refine xx_cVv (As := []) (st := []) (o := 138) C 7 rfl (by decide) (ceX_138 _ _ _) rfl rfl ca_X3_keepBefore cv_X3_keepBefore w_425 rfl ⟨Nat.le_of_ble_eq_true rfl, Nat.le_of_ble_eq_true rfl⟩ ⟨Nat.le_of_ble_eq_true rfl, Nat.le_of_ble_eq_true rfl⟩ (Nat.le_of_ble_eq_true rfl) dX11_tie_4 (fun μ4 e9 => c_X3_keepBefore _ μ4 e9) h (fun μ4 h => ?_) rfl
  refine xx_aload_n C 8 rfl 0 dX11_tie_7 rfl rfl ?_
  refine xx_getr (fi := 5) C 11 rfl (by decide) (ceX_132 _ _ _) rfl in_X11 (by decide) rfl rfl w_401 dX11_tie_8 ?_
  refine xx_aload_n C 12 rfl 0 dX11_tie_11 rfl rfl ?_
  refine xx_getr (fi := 2) C 15 rfl (by decide) (ceX_132 _ _ _) rfl in_X11 (by decide) rfl rfl w_398 dX11_tie_12 ?_
  refine xx_iload_n C 16 rfl 1 dX11_tie_15 rfl rfl ?_
  refine xx_iload_n C 17 rfl 2 dX11_tie_16 rfl rfl ?_
  refine xx_iload_n C 18 rfl 3 dX11_tie_17 rfl rfl ?_
  refine xx_cVi (As := [.int (iI a1), .int (iI a2), .int (iI a3)]) (st := [.ref (ad 138)]) (o := 134) C 21 rfl (by decide) (ceX_134 _ _ _) rfl rfl ca_X1_tieThread cv_X1_tieThread w_471 rfl ⟨Nat.le_of_ble_eq_true rfl, Nat.le_of_ble_eq_true rfl⟩ ⟨Nat.le_of_ble_eq_true rfl, Nat.le_of_ble_eq_true rfl⟩ (Nat.le_of_ble_eq_true rfl) dX11_tie_18 (fun v18 μ18 e9 => c_X1_tieThread _ _ _ _ v18 μ18 e9) h (fun v18 μ18 h => ?_) rfl
  refine xx_cVi (As := [.int (iI v18)]) (st := []) (o := 138) C 24 rfl (by decide) (ceX_138 _ _ _) rfl rfl ca_X3_settle cv_X3_settle w_457 rfl ⟨Nat.le_of_ble_eq_true rfl, Nat.le_of_ble_eq_true rfl⟩ ⟨Nat.le_of_ble_eq_true rfl, Nat.le_of_ble_eq_true rfl⟩ (Nat.le_of_ble_eq_true rfl) dX11_tie_21 (fun v21 μ21 e9 => c_X3_settle _ _ v21 μ21 e9) h (fun v21 μ21 h => ?_) rfl
  exact xx_iret C E rfl ⟨Nat.le_of_ble_eq_true rfl, Nat.le_of_ble_eq_true rfl⟩ dX11_tie_24 h

def f_X11_untie (μ : mu_T) (a1 : Int) (a2 : Int) : Option (Int × mu_T) :=
  bd_ (f_X3_keepBefore μ) (fun μ4 => bp_ (f_X1_takeThread μ4 a1 a2) (fun v17 μ17 => bp_ (f_X3_settle μ17 v17) (fun v20 μ20 => some (v20, μ20))))
set_option maxHeartbeats 4000000 in
set_option maxRecDepth 100000 in
theorem c_X11_untie {G : gp_} {ad : Nat → Nat} (μ : mu_T) (a1 : Int) (a2 : Int) (a : Int) (μr : mu_T) (h : f_X11_untie μ a1 a2 = some (a, μr)) : mi_ yX11_untie cX11_untie 3 (some .int) ({ frames := 4, cells := 0, slots := 0, locals := 81 } : Room) G 151 ad (ceX G ad) [.ref (ad 132), .int (iI a1), .int (iI a2)] μ a μr := by
  refine mi_in (own := "UrnHeap") (lv := [(0, .ref (ad 132)), (1, .int (iI a1)), (2, .int (iI a2))]) (by decide) rfl rfl (Nat.le_of_ble_eq_true rfl) (fun X C E => ?_)
  unfold f_X11_untie at h
  refine xx_aload_n C 1 rfl 0 dX11_untie_0 rfl rfl ?_
  refine xx_getr (fi := 5) C 4 rfl (by decide) (ceX_132 _ _ _) rfl in_X11 (by decide) rfl rfl w_401 dX11_untie_1 ?_
  refine xx_cVv (As := []) (st := []) (o := 138) C 7 rfl (by decide) (ceX_138 _ _ _) rfl rfl ca_X3_keepBefore cv_X3_keepBefore w_425 rfl ⟨Nat.le_of_ble_eq_true rfl, Nat.le_of_ble_eq_true rfl⟩ ⟨Nat.le_of_ble_eq_true rfl, Nat.le_of_ble_eq_true rfl⟩ (Nat.le_of_ble_eq_true rfl) dX11_untie_4 (fun μ4 e9 => c_X3_keepBefore _ μ4 e9) h (fun μ4 h => ?_) rfl
  refine xx_aload_n C 8 rfl 0 dX11_untie_7 rfl rfl ?_
  refine xx_getr (fi := 5) C 11 rfl (by decide) (ceX_132 _ _ _) rfl in_X11 (by decide) rfl rfl w_401 dX11_untie_8 ?_
  refine xx_aload_n C 12 rfl 0 dX11_untie_11 rfl rfl ?_
  refine xx_getr (fi := 2) C 15 rfl (by decide) (ceX_132 _ _ _) rfl in_X11 (by decide) rfl rfl w_398 dX11_untie_12 ?_
  refine xx_iload_n C 16 rfl 1 dX11_untie_15 rfl rfl ?_
  refine xx_iload_n C 17 rfl 2 dX11_untie_16 rfl rfl ?_
  refine xx_cVi (As := [.int (iI a1), .int (iI a2)]) (st := [.ref (ad 138)]) (o := 134) C 20 rfl (by decide) (ceX_134 _ _ _) rfl rfl ca_X1_takeThread cv_X1_takeThread w_510 rfl ⟨Nat.le_of_ble_eq_true rfl, Nat.le_of_ble_eq_true rfl⟩ ⟨Nat.le_of_ble_eq_true rfl, Nat.le_of_ble_eq_true rfl⟩ (Nat.le_of_ble_eq_true rfl) dX11_untie_17 (fun v17 μ17 e9 => c_X1_takeThread _ _ _ v17 μ17 e9) h (fun v17 μ17 h => ?_) rfl
  refine xx_cVi (As := [.int (iI v17)]) (st := []) (o := 138) C 23 rfl (by decide) (ceX_138 _ _ _) rfl rfl ca_X3_settle cv_X3_settle w_457 rfl ⟨Nat.le_of_ble_eq_true rfl, Nat.le_of_ble_eq_true rfl⟩ ⟨Nat.le_of_ble_eq_true rfl, Nat.le_of_ble_eq_true rfl⟩ (Nat.le_of_ble_eq_true rfl) dX11_untie_20 (fun v20 μ20 e9 => c_X3_settle _ _ v20 μ20 e9) h (fun v20 μ20 h => ?_) rfl
  exact xx_iret C E rfl ⟨Nat.le_of_ble_eq_true rfl, Nat.le_of_ble_eq_true rfl⟩ dX11_untie_23 h
end
section
theorem dX11_weak_0 : decode cX11_weak 0 = .ok (.aload_n 0, 1) := by decide +kernel
theorem dX11_weak_1 : decode cX11_weak 1 = .ok (.getfield 51, 3) := by decide +kernel
theorem dX11_weak_4 : decode cX11_weak 4 = .ok (.invokevirtual 69, 3) := by decide +kernel
theorem dX11_weak_7 : decode cX11_weak 7 = .ok (.aload_n 0, 1) := by decide +kernel
theorem dX11_weak_8 : decode cX11_weak 8 = .ok (.getfield 51, 3) := by decide +kernel
theorem dX11_weak_11 : decode cX11_weak 11 = .ok (.aload_n 0, 1) := by decide +kernel
theorem dX11_weak_12 : decode cX11_weak 12 = .ok (.getfield 28, 3) := by decide +kernel
theorem dX11_weak_15 : decode cX11_weak 15 = .ok (.iload_n 1, 1) := by decide +kernel
theorem dX11_weak_16 : decode cX11_weak 16 = .ok (.iload_n 2, 1) := by decide +kernel
theorem dX11_weak_17 : decode cX11_weak 17 = .ok (.invokevirtual 88, 3) := by decide +kernel
theorem dX11_weak_20 : decode cX11_weak 20 = .ok (.invokevirtual 76, 3) := by decide +kernel
theorem dX11_weak_23 : decode cX11_weak 23 = .ok (.ireturn, 1) := by decide +kernel
theorem dX11_unweak_0 : decode cX11_unweak 0 = .ok (.aload_n 0, 1) := by decide +kernel
theorem dX11_unweak_1 : decode cX11_unweak 1 = .ok (.getfield 51, 3) := by decide +kernel
theorem dX11_unweak_4 : decode cX11_unweak 4 = .ok (.invokevirtual 69, 3) := by decide +kernel
theorem dX11_unweak_7 : decode cX11_unweak 7 = .ok (.aload_n 0, 1) := by decide +kernel
theorem dX11_unweak_8 : decode cX11_unweak 8 = .ok (.getfield 51, 3) := by decide +kernel
theorem dX11_unweak_11 : decode cX11_unweak 11 = .ok (.aload_n 0, 1) := by decide +kernel
theorem dX11_unweak_12 : decode cX11_unweak 12 = .ok (.getfield 28, 3) := by decide +kernel
theorem dX11_unweak_15 : decode cX11_unweak 15 = .ok (.iload_n 1, 1) := by decide +kernel
theorem dX11_unweak_16 : decode cX11_unweak 16 = .ok (.invokevirtual 91, 3) := by decide +kernel
theorem dX11_unweak_19 : decode cX11_unweak 19 = .ok (.invokevirtual 76, 3) := by decide +kernel
theorem dX11_unweak_22 : decode cX11_unweak 22 = .ok (.ireturn, 1) := by decide +kernel
theorem dX11_name_0 : decode cX11_name 0 = .ok (.aload_n 0, 1) := by decide +kernel
theorem dX11_name_1 : decode cX11_name 1 = .ok (.getfield 51, 3) := by decide +kernel
theorem dX11_name_4 : decode cX11_name 4 = .ok (.invokevirtual 69, 3) := by decide +kernel
theorem dX11_name_7 : decode cX11_name 7 = .ok (.aload_n 0, 1) := by decide +kernel
theorem dX11_name_8 : decode cX11_name 8 = .ok (.getfield 51, 3) := by decide +kernel
theorem dX11_name_11 : decode cX11_name 11 = .ok (.aload_n 0, 1) := by decide +kernel
theorem dX11_name_12 : decode cX11_name 12 = .ok (.getfield 28, 3) := by decide +kernel
theorem dX11_name_15 : decode cX11_name 15 = .ok (.iload_n 1, 1) := by decide +kernel
theorem dX11_name_16 : decode cX11_name 16 = .ok (.iload_n 2, 1) := by decide +kernel
theorem dX11_name_17 : decode cX11_name 17 = .ok (.invokevirtual 94, 3) := by decide +kernel
theorem dX11_name_20 : decode cX11_name 20 = .ok (.invokevirtual 76, 3) := by decide +kernel
theorem dX11_name_23 : decode cX11_name 23 = .ok (.ireturn, 1) := by decide +kernel
theorem dX11_drop_0 : decode cX11_drop 0 = .ok (.aload_n 0, 1) := by decide +kernel
theorem dX11_drop_1 : decode cX11_drop 1 = .ok (.getfield 51, 3) := by decide +kernel
theorem dX11_drop_4 : decode cX11_drop 4 = .ok (.invokevirtual 69, 3) := by decide +kernel
theorem dX11_drop_7 : decode cX11_drop 7 = .ok (.aload_n 0, 1) := by decide +kernel
theorem dX11_drop_8 : decode cX11_drop 8 = .ok (.getfield 51, 3) := by decide +kernel
theorem dX11_drop_11 : decode cX11_drop 11 = .ok (.aload_n 0, 1) := by decide +kernel
theorem dX11_drop_12 : decode cX11_drop 12 = .ok (.getfield 28, 3) := by decide +kernel
theorem dX11_drop_15 : decode cX11_drop 15 = .ok (.iload_n 1, 1) := by decide +kernel
theorem dX11_drop_16 : decode cX11_drop 16 = .ok (.invokevirtual 97, 3) := by decide +kernel
theorem dX11_drop_19 : decode cX11_drop 19 = .ok (.invokevirtual 76, 3) := by decide +kernel
theorem dX11_drop_22 : decode cX11_drop 22 = .ok (.ireturn, 1) := by decide +kernel
theorem dX11_urnOf_0 : decode cX11_urnOf 0 = .ok (.aload_n 0, 1) := by decide +kernel
theorem dX11_urnOf_1 : decode cX11_urnOf 1 = .ok (.getfield 13, 3) := by decide +kernel
theorem dX11_urnOf_4 : decode cX11_urnOf 4 = .ok (.iload_n 1, 1) := by decide +kernel
theorem dX11_urnOf_5 : decode cX11_urnOf 5 = .ok (.invokevirtual 100, 3) := by decide +kernel
theorem dX11_urnOf_8 : decode cX11_urnOf 8 = .ok (.ifCond .ne 6, 3) := by decide +kernel
theorem dX11_urnOf_11 : decode cX11_urnOf 11 = .ok (.bipush (-11), 2) := by decide +kernel
theorem dX11_urnOf_13 : decode cX11_urnOf 13 = .ok (.ireturn, 1) := by decide +kernel
theorem dX11_urnOf_14 : decode cX11_urnOf 14 = .ok (.iload_n 2, 1) := by decide +kernel
theorem dX11_urnOf_15 : decode cX11_urnOf 15 = .ok (.tableswitch 95 0 5 #[37, 47, 57, 66, 75, 85], 37) := by decide +kernel
theorem dX11_urnOf_52 : decode cX11_urnOf 52 = .ok (.aload_n 0, 1) := by decide +kernel
theorem dX11_urnOf_53 : decode cX11_urnOf 53 = .ok (.getfield 13, 3) := by decide +kernel
theorem dX11_urnOf_56 : decode cX11_urnOf 56 = .ok (.getfield 104, 3) := by decide +kernel
theorem dX11_urnOf_59 : decode cX11_urnOf 59 = .ok (.iload_n 1, 1) := by decide +kernel
theorem dX11_urnOf_60 : decode cX11_urnOf 60 = .ok (.iaload, 1) := by decide +kernel
theorem dX11_urnOf_61 : decode cX11_urnOf 61 = .ok (.ireturn, 1) := by decide +kernel
theorem dX11_urnOf_62 : decode cX11_urnOf 62 = .ok (.aload_n 0, 1) := by decide +kernel
theorem dX11_urnOf_63 : decode cX11_urnOf 63 = .ok (.getfield 13, 3) := by decide +kernel
theorem dX11_urnOf_66 : decode cX11_urnOf 66 = .ok (.getfield 108, 3) := by decide +kernel
theorem dX11_urnOf_69 : decode cX11_urnOf 69 = .ok (.iload_n 1, 1) := by decide +kernel
theorem dX11_urnOf_70 : decode cX11_urnOf 70 = .ok (.iaload, 1) := by decide +kernel
theorem dX11_urnOf_71 : decode cX11_urnOf 71 = .ok (.ireturn, 1) := by decide +kernel
theorem dX11_urnOf_72 : decode cX11_urnOf 72 = .ok (.aload_n 0, 1) := by decide +kernel
theorem dX11_urnOf_73 : decode cX11_urnOf 73 = .ok (.getfield 13, 3) := by decide +kernel
theorem dX11_urnOf_76 : decode cX11_urnOf 76 = .ok (.iload_n 1, 1) := by decide +kernel
theorem dX11_urnOf_77 : decode cX11_urnOf 77 = .ok (.invokevirtual 111, 3) := by decide +kernel
theorem dX11_urnOf_80 : decode cX11_urnOf 80 = .ok (.ireturn, 1) := by decide +kernel
theorem dX11_urnOf_81 : decode cX11_urnOf 81 = .ok (.aload_n 0, 1) := by decide +kernel
theorem dX11_urnOf_82 : decode cX11_urnOf 82 = .ok (.getfield 13, 3) := by decide +kernel
theorem dX11_urnOf_85 : decode cX11_urnOf 85 = .ok (.iload_n 1, 1) := by decide +kernel
theorem dX11_urnOf_86 : decode cX11_urnOf 86 = .ok (.invokevirtual 114, 3) := by decide +kernel
theorem dX11_urnOf_89 : decode cX11_urnOf 89 = .ok (.ireturn, 1) := by decide +kernel
theorem dX11_urnOf_90 : decode cX11_urnOf 90 = .ok (.aload_n 0, 1) := by decide +kernel
theorem dX11_urnOf_91 : decode cX11_urnOf 91 = .ok (.getfield 13, 3) := by decide +kernel
theorem dX11_urnOf_94 : decode cX11_urnOf 94 = .ok (.getfield 117, 3) := by decide +kernel
theorem dX11_urnOf_97 : decode cX11_urnOf 97 = .ok (.iload_n 1, 1) := by decide +kernel
theorem dX11_urnOf_98 : decode cX11_urnOf 98 = .ok (.iaload, 1) := by decide +kernel
theorem dX11_urnOf_99 : decode cX11_urnOf 99 = .ok (.ireturn, 1) := by decide +kernel
theorem dX11_urnOf_100 : decode cX11_urnOf 100 = .ok (.aload_n 0, 1) := by decide +kernel
theorem dX11_urnOf_101 : decode cX11_urnOf 101 = .ok (.getfield 13, 3) := by decide +kernel
theorem dX11_urnOf_104 : decode cX11_urnOf 104 = .ok (.getfield 120, 3) := by decide +kernel
theorem dX11_urnOf_107 : decode cX11_urnOf 107 = .ok (.iload_n 1, 1) := by decide +kernel
theorem dX11_urnOf_108 : decode cX11_urnOf 108 = .ok (.iaload, 1) := by decide +kernel
theorem dX11_urnOf_109 : decode cX11_urnOf 109 = .ok (.ireturn, 1) := by decide +kernel
theorem dX11_urnOf_110 : decode cX11_urnOf 110 = .ok (.bipush (-12), 2) := by decide +kernel
theorem dX11_urnOf_112 : decode cX11_urnOf 112 = .ok (.ireturn, 1) := by decide +kernel
theorem dX11_threadOf_0 : decode cX11_threadOf 0 = .ok (.aload_n 0, 1) := by decide +kernel
theorem dX11_threadOf_1 : decode cX11_threadOf 1 = .ok (.getfield 13, 3) := by decide +kernel
theorem dX11_threadOf_4 : decode cX11_threadOf 4 = .ok (.iload_n 1, 1) := by decide +kernel
theorem dX11_threadOf_5 : decode cX11_threadOf 5 = .ok (.invokevirtual 100, 3) := by decide +kernel
theorem dX11_threadOf_8 : decode cX11_threadOf 8 = .ok (.ifCond .eq 10, 3) := by decide +kernel
theorem dX11_threadOf_11 : decode cX11_threadOf 11 = .ok (.iload_n 2, 1) := by decide +kernel
theorem dX11_threadOf_12 : decode cX11_threadOf 12 = .ok (.invokestatic 123, 3) := by decide +kernel
theorem dX11_threadOf_15 : decode cX11_threadOf 15 = .ok (.ifCond .ne 6, 3) := by decide +kernel
theorem dX11_threadOf_18 : decode cX11_threadOf 18 = .ok (.bipush (-11), 2) := by decide +kernel
theorem dX11_threadOf_20 : decode cX11_threadOf 20 = .ok (.ireturn, 1) := by decide +kernel
theorem dX11_threadOf_21 : decode cX11_threadOf 21 = .ok (.aload_n 0, 1) := by decide +kernel
theorem dX11_threadOf_22 : decode cX11_threadOf 22 = .ok (.getfield 13, 3) := by decide +kernel
theorem dX11_threadOf_25 : decode cX11_threadOf 25 = .ok (.iload_n 1, 1) := by decide +kernel
theorem dX11_threadOf_26 : decode cX11_threadOf 26 = .ok (.iload_n 2, 1) := by decide +kernel
theorem dX11_threadOf_27 : decode cX11_threadOf 27 = .ok (.invokevirtual 126, 3) := by decide +kernel
theorem dX11_threadOf_30 : decode cX11_threadOf 30 = .ok (.ireturn, 1) := by decide +kernel
theorem dX11_named_0 : decode cX11_named 0 = .ok (.iload_n 1, 1) := by decide +kernel
theorem dX11_named_1 : decode cX11_named 1 = .ok (.invokestatic 129, 3) := by decide +kernel
theorem dX11_named_4 : decode cX11_named 4 = .ok (.ifCond .eq 15, 3) := by decide +kernel
theorem dX11_named_7 : decode cX11_named 7 = .ok (.aload_n 0, 1) := by decide +kernel
theorem dX11_named_8 : decode cX11_named 8 = .ok (.getfield 13, 3) := by decide +kernel
theorem dX11_named_11 : decode cX11_named 11 = .ok (.getfield 132, 3) := by decide +kernel
theorem dX11_named_14 : decode cX11_named 14 = .ok (.iload_n 1, 1) := by decide +kernel
theorem dX11_named_15 : decode cX11_named 15 = .ok (.iaload, 1) := by decide +kernel
theorem dX11_named_16 : decode cX11_named 16 = .ok (.goto 5, 3) := by decide +kernel
theorem dX11_named_19 : decode cX11_named 19 = .ok (.bipush (-11), 2) := by decide +kernel
theorem dX11_named_21 : decode cX11_named 21 = .ok (.ireturn, 1) := by decide +kernel
theorem dX11_begin_0 : decode cX11_begin 0 = .ok (.aload_n 0, 1) := by decide +kernel
theorem dX11_begin_1 : decode cX11_begin 1 = .ok (.getfield 51, 3) := by decide +kernel
theorem dX11_begin_4 : decode cX11_begin 4 = .ok (.invokevirtual 69, 3) := by decide +kernel
theorem dX11_begin_7 : decode cX11_begin 7 = .ok (.aload_n 0, 1) := by decide +kernel
theorem dX11_begin_8 : decode cX11_begin 8 = .ok (.getfield 51, 3) := by decide +kernel
theorem dX11_begin_11 : decode cX11_begin 11 = .ok (.aload_n 0, 1) := by decide +kernel
theorem dX11_begin_12 : decode cX11_begin 12 = .ok (.getfield 35, 3) := by decide +kernel
theorem dX11_begin_15 : decode cX11_begin 15 = .ok (.invokevirtual 135, 3) := by decide +kernel
theorem dX11_begin_18 : decode cX11_begin 18 = .ok (.invokevirtual 76, 3) := by decide +kernel
theorem dX11_begin_21 : decode cX11_begin 21 = .ok (.ireturn, 1) := by decide +kernel
theorem dX11_step_0 : decode cX11_step 0 = .ok (.aload_n 0, 1) := by decide +kernel
theorem dX11_step_1 : decode cX11_step 1 = .ok (.getfield 51, 3) := by decide +kernel
theorem dX11_step_4 : decode cX11_step 4 = .ok (.invokevirtual 69, 3) := by decide +kernel
theorem dX11_step_7 : decode cX11_step 7 = .ok (.aload_n 0, 1) := by decide +kernel
theorem dX11_step_8 : decode cX11_step 8 = .ok (.getfield 51, 3) := by decide +kernel
theorem dX11_step_11 : decode cX11_step 11 = .ok (.aload_n 0, 1) := by decide +kernel
theorem dX11_step_12 : decode cX11_step 12 = .ok (.getfield 35, 3) := by decide +kernel
theorem dX11_step_15 : decode cX11_step 15 = .ok (.iload_n 1, 1) := by decide +kernel
theorem dX11_step_16 : decode cX11_step 16 = .ok (.invokevirtual 139, 3) := by decide +kernel
theorem dX11_step_19 : decode cX11_step 19 = .ok (.invokevirtual 76, 3) := by decide +kernel
theorem dX11_step_22 : decode cX11_step 22 = .ok (.ireturn, 1) := by decide +kernel
theorem dX11_round_0 : decode cX11_round 0 = .ok (.aload_n 0, 1) := by decide +kernel
theorem dX11_round_1 : decode cX11_round 1 = .ok (.getfield 51, 3) := by decide +kernel
theorem dX11_round_4 : decode cX11_round 4 = .ok (.invokevirtual 69, 3) := by decide +kernel
theorem dX11_round_7 : decode cX11_round 7 = .ok (.aload_n 0, 1) := by decide +kernel
theorem dX11_round_8 : decode cX11_round 8 = .ok (.getfield 51, 3) := by decide +kernel
theorem dX11_round_11 : decode cX11_round 11 = .ok (.aload_n 0, 1) := by decide +kernel
theorem dX11_round_12 : decode cX11_round 12 = .ok (.getfield 35, 3) := by decide +kernel
theorem dX11_round_15 : decode cX11_round 15 = .ok (.invokevirtual 142, 3) := by decide +kernel
theorem dX11_round_18 : decode cX11_round 18 = .ok (.invokevirtual 76, 3) := by decide +kernel
theorem dX11_round_21 : decode cX11_round 21 = .ok (.ireturn, 1) := by decide +kernel
theorem dX11_rite_0 : decode cX11_rite 0 = .ok (.aload_n 0, 1) := by decide +kernel
theorem dX11_rite_1 : decode cX11_rite 1 = .ok (.getfield 51, 3) := by decide +kernel
theorem dX11_rite_4 : decode cX11_rite 4 = .ok (.invokevirtual 69, 3) := by decide +kernel
theorem dX11_rite_7 : decode cX11_rite 7 = .ok (.aload_n 0, 1) := by decide +kernel
theorem dX11_rite_8 : decode cX11_rite 8 = .ok (.getfield 51, 3) := by decide +kernel
theorem dX11_rite_11 : decode cX11_rite 11 = .ok (.aload_n 0, 1) := by decide +kernel
theorem dX11_rite_12 : decode cX11_rite 12 = .ok (.getfield 35, 3) := by decide +kernel
theorem dX11_rite_15 : decode cX11_rite 15 = .ok (.invokevirtual 145, 3) := by decide +kernel
theorem dX11_rite_18 : decode cX11_rite 18 = .ok (.invokevirtual 76, 3) := by decide +kernel
theorem dX11_rite_21 : decode cX11_rite 21 = .ok (.ireturn, 1) := by decide +kernel
theorem dX11_due_0 : decode cX11_due 0 = .ok (.aload_n 0, 1) := by decide +kernel
theorem dX11_due_1 : decode cX11_due 1 = .ok (.getfield 13, 3) := by decide +kernel
theorem dX11_due_4 : decode cX11_due 4 = .ok (.getfield 148, 3) := by decide +kernel
theorem dX11_due_7 : decode cX11_due 7 = .ok (.iload_n 1, 1) := by decide +kernel
theorem dX11_due_8 : decode cX11_due 8 = .ok (.invokevirtual 152, 3) := by decide +kernel
theorem dX11_due_11 : decode cX11_due 11 = .ok (.ireturn, 1) := by decide +kernel
theorem dX11_grey_0 : decode cX11_grey 0 = .ok (.aload_n 0, 1) := by decide +kernel
theorem dX11_grey_1 : decode cX11_grey 1 = .ok (.getfield 13, 3) := by decide +kernel
theorem dX11_grey_4 : decode cX11_grey 4 = .ok (.getfield 157, 3) := by decide +kernel
theorem dX11_grey_7 : decode cX11_grey 7 = .ok (.iload_n 1, 1) := by decide +kernel
theorem dX11_grey_8 : decode cX11_grey 8 = .ok (.invokevirtual 152, 3) := by decide +kernel
theorem dX11_grey_11 : decode cX11_grey 11 = .ok (.ireturn, 1) := by decide +kernel
theorem dX11_freed_0 : decode cX11_freed 0 = .ok (.aload_n 0, 1) := by decide +kernel
theorem dX11_freed_1 : decode cX11_freed 1 = .ok (.getfield 13, 3) := by decide +kernel
theorem dX11_freed_4 : decode cX11_freed 4 = .ok (.iload_n 1, 1) := by decide +kernel
theorem dX11_freed_5 : decode cX11_freed 5 = .ok (.invokevirtual 160, 3) := by decide +kernel
theorem dX11_freed_8 : decode cX11_freed 8 = .ok (.ireturn, 1) := by decide +kernel
theorem dX11_live_0 : decode cX11_live 0 = .ok (.aload_n 0, 1) := by decide +kernel
theorem dX11_live_1 : decode cX11_live 1 = .ok (.getfield 44, 3) := by decide +kernel
theorem dX11_live_4 : decode cX11_live 4 = .ok (.invokevirtual 163, 3) := by decide +kernel
theorem dX11_live_7 : decode cX11_live 7 = .ok (.ireturn, 1) := by decide +kernel
theorem dX11_liveAgain_0 : decode cX11_liveAgain 0 = .ok (.aload_n 0, 1) := by decide +kernel
theorem dX11_liveAgain_1 : decode cX11_liveAgain 1 = .ok (.getfield 44, 3) := by decide +kernel
theorem dX11_liveAgain_4 : decode cX11_liveAgain 4 = .ok (.invokevirtual 166, 3) := by decide +kernel
theorem dX11_liveAgain_7 : decode cX11_liveAgain 7 = .ok (.ireturn, 1) := by decide +kernel
theorem dX11_depth_0 : decode cX11_depth 0 = .ok (.aload_n 0, 1) := by decide +kernel
theorem dX11_depth_1 : decode cX11_depth 1 = .ok (.getfield 13, 3) := by decide +kernel
theorem dX11_depth_4 : decode cX11_depth 4 = .ok (.iload_n 1, 1) := by decide +kernel
theorem dX11_depth_5 : decode cX11_depth 5 = .ok (.invokevirtual 100, 3) := by decide +kernel
theorem dX11_depth_8 : decode cX11_depth 8 = .ok (.ifCond .eq 23, 3) := by decide +kernel
theorem dX11_depth_11 : decode cX11_depth 11 = .ok (.aload_n 0, 1) := by decide +kernel
theorem dX11_depth_12 : decode cX11_depth 12 = .ok (.getfield 44, 3) := by decide +kernel
theorem dX11_depth_15 : decode cX11_depth 15 = .ok (.aload_n 0, 1) := by decide +kernel
theorem dX11_depth_16 : decode cX11_depth 16 = .ok (.getfield 44, 3) := by decide +kernel
theorem dX11_depth_19 : decode cX11_depth 19 = .ok (.bipush (-15), 2) := by decide +kernel
theorem dX11_depth_21 : decode cX11_depth 21 = .ok (.invokevirtual 169, 3) := by decide +kernel
theorem dX11_depth_24 : decode cX11_depth 24 = .ok (.iload_n 1, 1) := by decide +kernel
theorem dX11_depth_25 : decode cX11_depth 25 = .ok (.invokevirtual 172, 3) := by decide +kernel
theorem dX11_depth_28 : decode cX11_depth 28 = .ok (.goto 5, 3) := by decide +kernel
theorem dX11_depth_31 : decode cX11_depth 31 = .ok (.bipush (-11), 2) := by decide +kernel
theorem dX11_depth_33 : decode cX11_depth 33 = .ok (.ireturn, 1) := by decide +kernel
theorem dX11_keepers_0 : decode cX11_keepers 0 = .ok (.aload_n 0, 1) := by decide +kernel
theorem dX11_keepers_1 : decode cX11_keepers 1 = .ok (.getfield 13, 3) := by decide +kernel
theorem dX11_keepers_4 : decode cX11_keepers 4 = .ok (.iload_n 1, 1) := by decide +kernel
theorem dX11_keepers_5 : decode cX11_keepers 5 = .ok (.invokevirtual 100, 3) := by decide +kernel
theorem dX11_keepers_8 : decode cX11_keepers 8 = .ok (.ifCond .eq 14, 3) := by decide +kernel
theorem dX11_keepers_11 : decode cX11_keepers 11 = .ok (.aload_n 0, 1) := by decide +kernel
theorem dX11_keepers_12 : decode cX11_keepers 12 = .ok (.getfield 44, 3) := by decide +kernel
theorem dX11_keepers_15 : decode cX11_keepers 15 = .ok (.iload_n 1, 1) := by decide +kernel
theorem dX11_keepers_16 : decode cX11_keepers 16 = .ok (.invokevirtual 175, 3) := by decide +kernel
theorem dX11_keepers_19 : decode cX11_keepers 19 = .ok (.goto 5, 3) := by decide +kernel
theorem dX11_keepers_22 : decode cX11_keepers 22 = .ok (.bipush (-11), 2) := by decide +kernel
theorem dX11_keepers_24 : decode cX11_keepers 24 = .ok (.ireturn, 1) := by decide +kernel
theorem dX11_ring_0 : decode cX11_ring 0 = .ok (.aload_n 0, 1) := by decide +kernel
theorem dX11_ring_1 : decode cX11_ring 1 = .ok (.getfield 13, 3) := by decide +kernel
theorem dX11_ring_4 : decode cX11_ring 4 = .ok (.iload_n 1, 1) := by decide +kernel
theorem dX11_ring_5 : decode cX11_ring 5 = .ok (.invokevirtual 100, 3) := by decide +kernel
theorem dX11_ring_8 : decode cX11_ring 8 = .ok (.ifCond .eq 14, 3) := by decide +kernel
theorem dX11_ring_11 : decode cX11_ring 11 = .ok (.aload_n 0, 1) := by decide +kernel
theorem dX11_ring_12 : decode cX11_ring 12 = .ok (.getfield 44, 3) := by decide +kernel
theorem dX11_ring_15 : decode cX11_ring 15 = .ok (.iload_n 1, 1) := by decide +kernel
theorem dX11_ring_16 : decode cX11_ring 16 = .ok (.invokevirtual 178, 3) := by decide +kernel
theorem dX11_ring_19 : decode cX11_ring 19 = .ok (.goto 5, 3) := by decide +kernel
theorem dX11_ring_22 : decode cX11_ring 22 = .ok (.bipush (-11), 2) := by decide +kernel
theorem dX11_ring_24 : decode cX11_ring 24 = .ok (.ireturn, 1) := by decide +kernel
theorem dX11_wouldFree_0 : decode cX11_wouldFree 0 = .ok (.aload_n 0, 1) := by decide +kernel
theorem dX11_wouldFree_1 : decode cX11_wouldFree 1 = .ok (.getfield 44, 3) := by decide +kernel
theorem dX11_wouldFree_4 : decode cX11_wouldFree 4 = .ok (.invokevirtual 181, 3) := by decide +kernel
theorem dX11_wouldFree_7 : decode cX11_wouldFree 7 = .ok (.ireturn, 1) := by decide +kernel
theorem dX11_ranked_0 : decode cX11_ranked 0 = .ok (.aload_n 0, 1) := by decide +kernel
theorem dX11_ranked_1 : decode cX11_ranked 1 = .ok (.getfield 44, 3) := by decide +kernel
theorem dX11_ranked_4 : decode cX11_ranked 4 = .ok (.iload_n 1, 1) := by decide +kernel
theorem dX11_ranked_5 : decode cX11_ranked 5 = .ok (.invokevirtual 184, 3) := by decide +kernel
theorem dX11_ranked_8 : decode cX11_ranked 8 = .ok (.ireturn, 1) := by decide +kernel
theorem dX11_reason_0 : decode cX11_reason 0 = .ok (.iload_n 1, 1) := by decide +kernel
theorem dX11_reason_1 : decode cX11_reason 1 = .ok (.ifCond .eq 13, 3) := by decide +kernel
theorem dX11_reason_4 : decode cX11_reason 4 = .ok (.aload_n 0, 1) := by decide +kernel
theorem dX11_reason_5 : decode cX11_reason 5 = .ok (.getfield 19, 3) := by decide +kernel
theorem dX11_reason_8 : decode cX11_reason 8 = .ok (.getfield 223, 3) := by decide +kernel
theorem dX11_reason_11 : decode cX11_reason 11 = .ok (.goto 10, 3) := by decide +kernel
theorem dX11_reason_14 : decode cX11_reason 14 = .ok (.aload_n 0, 1) := by decide +kernel
theorem dX11_reason_15 : decode cX11_reason 15 = .ok (.getfield 19, 3) := by decide +kernel
theorem dX11_reason_18 : decode cX11_reason 18 = .ok (.getfield 226, 3) := by decide +kernel
theorem dX11_reason_21 : decode cX11_reason 21 = .ok (.ireturn, 1) := by decide +kernel
theorem dX11_isBalanced_0 : decode cX11_isBalanced 0 = .ok (.aload_n 0, 1) := by decide +kernel
theorem dX11_isBalanced_1 : decode cX11_isBalanced 1 = .ok (.getfield 13, 3) := by decide +kernel
theorem dX11_isBalanced_4 : decode cX11_isBalanced 4 = .ok (.invokevirtual 271, 3) := by decide +kernel
theorem dX11_isBalanced_7 : decode cX11_isBalanced 7 = .ok (.ifCond .eq 7, 3) := by decide +kernel
theorem dX11_isBalanced_10 : decode cX11_isBalanced 10 = .ok (.iconst 1, 1) := by decide +kernel
theorem dX11_isBalanced_11 : decode cX11_isBalanced 11 = .ok (.goto 4, 3) := by decide +kernel
theorem dX11_isBalanced_14 : decode cX11_isBalanced 14 = .ok (.iconst 0, 1) := by decide +kernel
theorem dX11_isBalanced_15 : decode cX11_isBalanced 15 = .ok (.ireturn, 1) := by decide +kernel
theorem dX11_meanHeld_0 : decode cX11_meanHeld 0 = .ok (.aload_n 0, 1) := by decide +kernel
theorem dX11_meanHeld_1 : decode cX11_meanHeld 1 = .ok (.getfield 13, 3) := by decide +kernel
theorem dX11_meanHeld_4 : decode cX11_meanHeld 4 = .ok (.invokevirtual 238, 3) := by decide +kernel
theorem dX11_meanHeld_7 : decode cX11_meanHeld 7 = .ok (.istore_n 1, 1) := by decide +kernel
theorem dX11_meanHeld_8 : decode cX11_meanHeld 8 = .ok (.iload_n 1, 1) := by decide +kernel
theorem dX11_meanHeld_9 : decode cX11_meanHeld 9 = .ok (.ifCond .ne 7, 3) := by decide +kernel
theorem dX11_meanHeld_12 : decode cX11_meanHeld 12 = .ok (.dconst 0, 1) := by decide +kernel
theorem dX11_meanHeld_13 : decode cX11_meanHeld 13 = .ok (.goto 14, 3) := by decide +kernel
theorem dX11_meanHeld_16 : decode cX11_meanHeld 16 = .ok (.aload_n 0, 1) := by decide +kernel
theorem dX11_meanHeld_17 : decode cX11_meanHeld 17 = .ok (.getfield 13, 3) := by decide +kernel
theorem dX11_meanHeld_20 : decode cX11_meanHeld 20 = .ok (.invokevirtual 275, 3) := by decide +kernel
theorem dX11_meanHeld_23 : decode cX11_meanHeld 23 = .ok (.i2d, 1) := by decide +kernel
theorem dX11_meanHeld_24 : decode cX11_meanHeld 24 = .ok (.iload_n 1, 1) := by decide +kernel
theorem dX11_meanHeld_25 : decode cX11_meanHeld 25 = .ok (.i2d, 1) := by decide +kernel
theorem dX11_meanHeld_26 : decode cX11_meanHeld 26 = .ok (.ddiv, 1) := by decide +kernel
theorem dX11_meanHeld_27 : decode cX11_meanHeld 27 = .ok (.dreturn, 1) := by decide +kernel
theorem dX11_liveShare_0 : decode cX11_liveShare 0 = .ok (.aload_n 0, 1) := by decide +kernel
theorem dX11_liveShare_1 : decode cX11_liveShare 1 = .ok (.getfield 13, 3) := by decide +kernel
theorem dX11_liveShare_4 : decode cX11_liveShare 4 = .ok (.invokevirtual 238, 3) := by decide +kernel
theorem dX11_liveShare_7 : decode cX11_liveShare 7 = .ok (.istore_n 1, 1) := by decide +kernel
theorem dX11_liveShare_8 : decode cX11_liveShare 8 = .ok (.iload_n 1, 1) := by decide +kernel
theorem dX11_liveShare_9 : decode cX11_liveShare 9 = .ok (.ifCond .ne 7, 3) := by decide +kernel
theorem dX11_liveShare_12 : decode cX11_liveShare 12 = .ok (.fconst 0, 1) := by decide +kernel
theorem dX11_liveShare_13 : decode cX11_liveShare 13 = .ok (.goto 17, 3) := by decide +kernel
theorem dX11_liveShare_16 : decode cX11_liveShare 16 = .ok (.aload_n 0, 1) := by decide +kernel
theorem dX11_liveShare_17 : decode cX11_liveShare 17 = .ok (.getfield 44, 3) := by decide +kernel
theorem dX11_liveShare_20 : decode cX11_liveShare 20 = .ok (.invokevirtual 163, 3) := by decide +kernel
theorem dX11_liveShare_23 : decode cX11_liveShare 23 = .ok (.invokestatic 278, 3) := by decide +kernel
theorem dX11_liveShare_26 : decode cX11_liveShare 26 = .ok (.i2f, 1) := by decide +kernel
theorem dX11_liveShare_27 : decode cX11_liveShare 27 = .ok (.iload_n 1, 1) := by decide +kernel
theorem dX11_liveShare_28 : decode cX11_liveShare 28 = .ok (.i2f, 1) := by decide +kernel
theorem dX11_liveShare_29 : decode cX11_liveShare 29 = .ok (.fdiv, 1) := by decide +kernel
theorem dX11_liveShare_30 : decode cX11_liveShare 30 = .ok (.freturn, 1) := by decide +kernel
theorem dX11_undo_0 : decode cX11_undo 0 = .ok (.aload_n 0, 1) := by decide +kernel
theorem dX11_undo_1 : decode cX11_undo 1 = .ok (.getfield 51, 3) := by decide +kernel
theorem dX11_undo_4 : decode cX11_undo 4 = .ok (.invokevirtual 283, 3) := by decide +kernel
theorem dX11_undo_7 : decode cX11_undo 7 = .ok (.ireturn, 1) := by decide +kernel
theorem dX11_save_0 : decode cX11_save 0 = .ok (.aload_n 0, 1) := by decide +kernel
theorem dX11_save_1 : decode cX11_save 1 = .ok (.getfield 51, 3) := by decide +kernel
theorem dX11_save_4 : decode cX11_save 4 = .ok (.invokevirtual 286, 3) := by decide +kernel
theorem dX11_save_7 : decode cX11_save 7 = .ok (.ireturn, 1) := by decide +kernel
theorem dX11_restore_0 : decode cX11_restore 0 = .ok (.aload_n 0, 1) := by decide +kernel
theorem dX11_restore_1 : decode cX11_restore 1 = .ok (.getfield 51, 3) := by decide +kernel
theorem dX11_restore_4 : decode cX11_restore 4 = .ok (.invokevirtual 289, 3) := by decide +kernel
theorem dX11_restore_7 : decode cX11_restore 7 = .ok (.ireturn, 1) := by decide +kernel
def f_X11_weak (μ : mu_T) (a1 : Int) (a2 : Int) : Option (Int × mu_T) :=
  bd_ (f_X3_keepBefore μ) (fun μ4 => bp_ (f_X1_tieWeak μ4 a1 a2) (fun v17 μ17 => bp_ (f_X3_settle μ17 v17) (fun v20 μ20 => some (v20, μ20))))
set_option maxHeartbeats 4000000 in
set_option maxRecDepth 100000 in
theorem c_X11_weak {G : gp_} {ad : Nat → Nat} (μ : mu_T) (a1 : Int) (a2 : Int) (a : Int) (μr : mu_T) (h : f_X11_weak μ a1 a2 = some (a, μr)) : mi_ yX11_weak cX11_weak 3 (some .int) ({ frames := 4, cells := 0, slots := 0, locals := 81 } : Room) G 151 ad (ceX G ad) [.ref (ad 132), .int (iI a1), .int (iI a2)] μ a μr := by
  refine mi_in (own := "UrnHeap") (lv := [(0, .ref (ad 132)), (1, .int (iI a1)), (2, .int (iI a2))]) (by decide) rfl rfl (Nat.le_of_ble_eq_true rfl) (fun X C E => ?_)
  unfold f_X11_weak at h
  refine xx_aload_n C 1 rfl 0 dX11_weak_0 rfl rfl ?_
  refine xx_getr (fi := 5) C 4 rfl (by decide) (ceX_132 _ _ _) rfl in_X11 (by decide) rfl rfl w_401 dX11_weak_1 ?_
  refine xx_cVv (As := []) (st := []) (o := 138) C 7 rfl (by decide) (ceX_138 _ _ _) rfl rfl ca_X3_keepBefore cv_X3_keepBefore w_425 rfl ⟨Nat.le_of_ble_eq_true rfl, Nat.le_of_ble_eq_true rfl⟩ ⟨Nat.le_of_ble_eq_true rfl, Nat.le_of_ble_eq_true rfl⟩ (Nat.le_of_ble_eq_true rfl) dX11_weak_4 (fun μ4 e9 => c_X3_keepBefore _ μ4 e9) h (fun μ4 h => ?_) rfl
  refine xx_aload_n C 8 rfl 0 dX11_weak_7 rfl rfl ?_
  refine xx_getr (fi := 5) C 11 rfl (by decide) (ceX_132 _ _ _) rfl in_X11 (by decide) rfl rfl w_401 dX11_weak_8 ?_
  refine xx_aload_n C 12 rfl 0 dX11_weak_11 rfl rfl ?_
  refine xx_getr (fi := 2) C 15 rfl (by decide) (ceX_132 _ _ _) rfl in_X11 (by decide) rfl rfl w_398 dX11_weak_12 ?_
  refine xx_iload_n C 16 rfl 1 dX11_weak_15 rfl rfl ?_
  refine xx_iload_n C 17 rfl 2 dX11_weak_16 rfl rfl ?_
  refine xx_cVi (As := [.int (iI a1), .int (iI a2)]) (st := [.ref (ad 138)]) (o := 134) C 20 rfl (by decide) (ceX_134 _ _ _) rfl rfl ca_X1_tieWeak cv_X1_tieWeak w_518 rfl ⟨Nat.le_of_ble_eq_true rfl, Nat.le_of_ble_eq_true rfl⟩ ⟨Nat.le_of_ble_eq_true rfl, Nat.le_of_ble_eq_true rfl⟩ (Nat.le_of_ble_eq_true rfl) dX11_weak_17 (fun v17 μ17 e9 => c_X1_tieWeak _ _ _ v17 μ17 e9) h (fun v17 μ17 h => ?_) rfl
  refine xx_cVi (As := [.int (iI v17)]) (st := []) (o := 138) C 23 rfl (by decide) (ceX_138 _ _ _) rfl rfl ca_X3_settle cv_X3_settle w_457 rfl ⟨Nat.le_of_ble_eq_true rfl, Nat.le_of_ble_eq_true rfl⟩ ⟨Nat.le_of_ble_eq_true rfl, Nat.le_of_ble_eq_true rfl⟩ (Nat.le_of_ble_eq_true rfl) dX11_weak_20 (fun v20 μ20 e9 => c_X3_settle _ _ v20 μ20 e9) h (fun v20 μ20 h => ?_) rfl
  exact xx_iret C E rfl ⟨Nat.le_of_ble_eq_true rfl, Nat.le_of_ble_eq_true rfl⟩ dX11_weak_23 h

def f_X11_unweak (μ : mu_T) (a1 : Int) : Option (Int × mu_T) :=
  bd_ (f_X3_keepBefore μ) (fun μ4 => bp_ (f_X1_takeWeak μ4 a1) (fun v16 μ16 => bp_ (f_X3_settle μ16 v16) (fun v19 μ19 => some (v19, μ19))))
set_option maxHeartbeats 4000000 in
set_option maxRecDepth 100000 in
theorem c_X11_unweak {G : gp_} {ad : Nat → Nat} (μ : mu_T) (a1 : Int) (a : Int) (μr : mu_T) (h : f_X11_unweak μ a1 = some (a, μr)) : mi_ yX11_unweak cX11_unweak 2 (some .int) ({ frames := 4, cells := 0, slots := 0, locals := 81 } : Room) G 151 ad (ceX G ad) [.ref (ad 132), .int (iI a1)] μ a μr := by
  refine mi_in (own := "UrnHeap") (lv := [(0, .ref (ad 132)), (1, .int (iI a1))]) (by decide) rfl rfl (Nat.le_of_ble_eq_true rfl) (fun X C E => ?_)
  unfold f_X11_unweak at h
  refine xx_aload_n C 1 rfl 0 dX11_unweak_0 rfl rfl ?_
  refine xx_getr (fi := 5) C 4 rfl (by decide) (ceX_132 _ _ _) rfl in_X11 (by decide) rfl rfl w_401 dX11_unweak_1 ?_
  refine xx_cVv (As := []) (st := []) (o := 138) C 7 rfl (by decide) (ceX_138 _ _ _) rfl rfl ca_X3_keepBefore cv_X3_keepBefore w_425 rfl ⟨Nat.le_of_ble_eq_true rfl, Nat.le_of_ble_eq_true rfl⟩ ⟨Nat.le_of_ble_eq_true rfl, Nat.le_of_ble_eq_true rfl⟩ (Nat.le_of_ble_eq_true rfl) dX11_unweak_4 (fun μ4 e9 => c_X3_keepBefore _ μ4 e9) h (fun μ4 h => ?_) rfl
  refine xx_aload_n C 8 rfl 0 dX11_unweak_7 rfl rfl ?_
  refine xx_getr (fi := 5) C 11 rfl (by decide) (ceX_132 _ _ _) rfl in_X11 (by decide) rfl rfl w_401 dX11_unweak_8 ?_
  refine xx_aload_n C 12 rfl 0 dX11_unweak_11 rfl rfl ?_
  refine xx_getr (fi := 2) C 15 rfl (by decide) (ceX_132 _ _ _) rfl in_X11 (by decide) rfl rfl w_398 dX11_unweak_12 ?_
  refine xx_iload_n C 16 rfl 1 dX11_unweak_15 rfl rfl ?_
  refine xx_cVi (As := [.int (iI a1)]) (st := [.ref (ad 138)]) (o := 134) C 19 rfl (by decide) (ceX_134 _ _ _) rfl rfl ca_X1_takeWeak cv_X1_takeWeak w_526 rfl ⟨Nat.le_of_ble_eq_true rfl, Nat.le_of_ble_eq_true rfl⟩ ⟨Nat.le_of_ble_eq_true rfl, Nat.le_of_ble_eq_true rfl⟩ (Nat.le_of_ble_eq_true rfl) dX11_unweak_16 (fun v16 μ16 e9 => c_X1_takeWeak _ _ v16 μ16 e9) h (fun v16 μ16 h => ?_) rfl
  refine xx_cVi (As := [.int (iI v16)]) (st := []) (o := 138) C 22 rfl (by decide) (ceX_138 _ _ _) rfl rfl ca_X3_settle cv_X3_settle w_457 rfl ⟨Nat.le_of_ble_eq_true rfl, Nat.le_of_ble_eq_true rfl⟩ ⟨Nat.le_of_ble_eq_true rfl, Nat.le_of_ble_eq_true rfl⟩ (Nat.le_of_ble_eq_true rfl) dX11_unweak_19 (fun v19 μ19 e9 => c_X3_settle _ _ v19 μ19 e9) h (fun v19 μ19 h => ?_) rfl
  exact xx_iret C E rfl ⟨Nat.le_of_ble_eq_true rfl, Nat.le_of_ble_eq_true rfl⟩ dX11_unweak_22 h

def f_X11_name (μ : mu_T) (a1 : Int) (a2 : Int) : Option (Int × mu_T) :=
  bd_ (f_X3_keepBefore μ) (fun μ4 => bp_ (f_X1_giveName μ4 a1 a2) (fun v17 μ17 => bp_ (f_X3_settle μ17 v17) (fun v20 μ20 => some (v20, μ20))))
set_option maxHeartbeats 4000000 in
set_option maxRecDepth 100000 in
theorem c_X11_name {G : gp_} {ad : Nat → Nat} (μ : mu_T) (a1 : Int) (a2 : Int) (a : Int) (μr : mu_T) (h : f_X11_name μ a1 a2 = some (a, μr)) : mi_ yX11_name cX11_name 3 (some .int) ({ frames := 4, cells := 0, slots := 0, locals := 86 } : Room) G 151 ad (ceX G ad) [.ref (ad 132), .int (iI a1), .int (iI a2)] μ a μr := by
  refine mi_in (own := "UrnHeap") (lv := [(0, .ref (ad 132)), (1, .int (iI a1)), (2, .int (iI a2))]) (by decide) rfl rfl (Nat.le_of_ble_eq_true rfl) (fun X C E => ?_)
  unfold f_X11_name at h
  refine xx_aload_n C 1 rfl 0 dX11_name_0 rfl rfl ?_
  refine xx_getr (fi := 5) C 4 rfl (by decide) (ceX_132 _ _ _) rfl in_X11 (by decide) rfl rfl w_401 dX11_name_1 ?_
  refine xx_cVv (As := []) (st := []) (o := 138) C 7 rfl (by decide) (ceX_138 _ _ _) rfl rfl ca_X3_keepBefore cv_X3_keepBefore w_425 rfl ⟨Nat.le_of_ble_eq_true rfl, Nat.le_of_ble_eq_true rfl⟩ ⟨Nat.le_of_ble_eq_true rfl, Nat.le_of_ble_eq_true rfl⟩ (Nat.le_of_ble_eq_true rfl) dX11_name_4 (fun μ4 e9 => c_X3_keepBefore _ μ4 e9) h (fun μ4 h => ?_) rfl
  refine xx_aload_n C 8 rfl 0 dX11_name_7 rfl rfl ?_
  refine xx_getr (fi := 5) C 11 rfl (by decide) (ceX_132 _ _ _) rfl in_X11 (by decide) rfl rfl w_401 dX11_name_8 ?_
  refine xx_aload_n C 12 rfl 0 dX11_name_11 rfl rfl ?_
  refine xx_getr (fi := 2) C 15 rfl (by decide) (ceX_132 _ _ _) rfl in_X11 (by decide) rfl rfl w_398 dX11_name_12 ?_
  refine xx_iload_n C 16 rfl 1 dX11_name_15 rfl rfl ?_
  refine xx_iload_n C 17 rfl 2 dX11_name_16 rfl rfl ?_
  refine xx_cVi (As := [.int (iI a1), .int (iI a2)]) (st := [.ref (ad 138)]) (o := 134) C 20 rfl (by decide) (ceX_134 _ _ _) rfl rfl ca_X1_giveName cv_X1_giveName w_534 rfl ⟨Nat.le_of_ble_eq_true rfl, Nat.le_of_ble_eq_true rfl⟩ ⟨Nat.le_of_ble_eq_true rfl, Nat.le_of_ble_eq_true rfl⟩ (Nat.le_of_ble_eq_true rfl) dX11_name_17 (fun v17 μ17 e9 => c_X1_giveName _ _ _ v17 μ17 e9) h (fun v17 μ17 h => ?_) rfl
  refine xx_cVi (As := [.int (iI v17)]) (st := []) (o := 138) C 23 rfl (by decide) (ceX_138 _ _ _) rfl rfl ca_X3_settle cv_X3_settle w_457 rfl ⟨Nat.le_of_ble_eq_true rfl, Nat.le_of_ble_eq_true rfl⟩ ⟨Nat.le_of_ble_eq_true rfl, Nat.le_of_ble_eq_true rfl⟩ (Nat.le_of_ble_eq_true rfl) dX11_name_20 (fun v20 μ20 e9 => c_X3_settle _ _ v20 μ20 e9) h (fun v20 μ20 h => ?_) rfl
  exact xx_iret C E rfl ⟨Nat.le_of_ble_eq_true rfl, Nat.le_of_ble_eq_true rfl⟩ dX11_name_23 h

def f_X11_drop (μ : mu_T) (a1 : Int) : Option (Int × mu_T) :=
  bd_ (f_X3_keepBefore μ) (fun μ4 => bp_ (f_X1_takeName μ4 a1) (fun v16 μ16 => bp_ (f_X3_settle μ16 v16) (fun v19 μ19 => some (v19, μ19))))
set_option maxHeartbeats 4000000 in
set_option maxRecDepth 100000 in
theorem c_X11_drop {G : gp_} {ad : Nat → Nat} (μ : mu_T) (a1 : Int) (a : Int) (μr : mu_T) (h : f_X11_drop μ a1 = some (a, μr)) : mi_ yX11_drop cX11_drop 2 (some .int) ({ frames := 4, cells := 0, slots := 0, locals := 81 } : Room) G 151 ad (ceX G ad) [.ref (ad 132), .int (iI a1)] μ a μr := by
  refine mi_in (own := "UrnHeap") (lv := [(0, .ref (ad 132)), (1, .int (iI a1))]) (by decide) rfl rfl (Nat.le_of_ble_eq_true rfl) (fun X C E => ?_)
  unfold f_X11_drop at h
  refine xx_aload_n C 1 rfl 0 dX11_drop_0 rfl rfl ?_
  refine xx_getr (fi := 5) C 4 rfl (by decide) (ceX_132 _ _ _) rfl in_X11 (by decide) rfl rfl w_401 dX11_drop_1 ?_
  refine xx_cVv (As := []) (st := []) (o := 138) C 7 rfl (by decide) (ceX_138 _ _ _) rfl rfl ca_X3_keepBefore cv_X3_keepBefore w_425 rfl ⟨Nat.le_of_ble_eq_true rfl, Nat.le_of_ble_eq_true rfl⟩ ⟨Nat.le_of_ble_eq_true rfl, Nat.le_of_ble_eq_true rfl⟩ (Nat.le_of_ble_eq_true rfl) dX11_drop_4 (fun μ4 e9 => c_X3_keepBefore _ μ4 e9) h (fun μ4 h => ?_) rfl
  refine xx_aload_n C 8 rfl 0 dX11_drop_7 rfl rfl ?_
  refine xx_getr (fi := 5) C 11 rfl (by decide) (ceX_132 _ _ _) rfl in_X11 (by decide) rfl rfl w_401 dX11_drop_8 ?_
  refine xx_aload_n C 12 rfl 0 dX11_drop_11 rfl rfl ?_
  refine xx_getr (fi := 2) C 15 rfl (by decide) (ceX_132 _ _ _) rfl in_X11 (by decide) rfl rfl w_398 dX11_drop_12 ?_
  refine xx_iload_n C 16 rfl 1 dX11_drop_15 rfl rfl ?_
  refine xx_cVi (As := [.int (iI a1)]) (st := [.ref (ad 138)]) (o := 134) C 19 rfl (by decide) (ceX_134 _ _ _) rfl rfl ca_X1_takeName cv_X1_takeName w_545 rfl ⟨Nat.le_of_ble_eq_true rfl, Nat.le_of_ble_eq_true rfl⟩ ⟨Nat.le_of_ble_eq_true rfl, Nat.le_of_ble_eq_true rfl⟩ (Nat.le_of_ble_eq_true rfl) dX11_drop_16 (fun v16 μ16 e9 => c_X1_takeName _ _ v16 μ16 e9) h (fun v16 μ16 h => ?_) rfl
  refine xx_cVi (As := [.int (iI v16)]) (st := []) (o := 138) C 22 rfl (by decide) (ceX_138 _ _ _) rfl rfl ca_X3_settle cv_X3_settle w_457 rfl ⟨Nat.le_of_ble_eq_true rfl, Nat.le_of_ble_eq_true rfl⟩ ⟨Nat.le_of_ble_eq_true rfl, Nat.le_of_ble_eq_true rfl⟩ (Nat.le_of_ble_eq_true rfl) dX11_drop_19 (fun v19 μ19 e9 => c_X3_settle _ _ v19 μ19 e9) h (fun v19 μ19 h => ?_) rfl
  exact xx_iret C E rfl ⟨Nat.le_of_ble_eq_true rfl, Nat.le_of_ble_eq_true rfl⟩ dX11_drop_22 h

def f_X11_urnOf (μ : mu_T) (a1 : Int) (a2 : Int) : Option Int :=
  bd_ (f_X2_hasUrn μ a1) (fun v5 => eq_ v5 0
      (some (-11))
      (ts_ a2 [0, 1, 2, 3, 4, 5] [rd_ μ 4 24 a1 (fun v60 => some v60),
      rd_ μ 3 24 a1 (fun v70 => some v70),
      bd_ (f_X2_threadsFrom μ a1) (fun v77 => some v77),
      bd_ (f_X2_holdersOf μ a1) (fun v86 => some v86),
      rd_ μ 2 24 a1 (fun v98 => some v98),
      rd_ μ 5 24 a1 (fun v108 => some v108)]
      (some (-12))))
set_option maxHeartbeats 4000000 in
set_option maxRecDepth 100000 in
theorem c_X11_urnOf {G : gp_} {ad : Nat → Nat} (μ : mu_T) (a1 : Int) (a2 : Int) (a : Int) (h : f_X11_urnOf μ a1 a2 = some a) : mi_ yX11_urnOf cX11_urnOf 3 (some .int) ({ frames := 3, cells := 0, slots := 0, locals := 65 } : Room) G 151 ad (ceX G ad) [.ref (ad 132), .int (iI a1), .int (iI a2)] μ a μ := by
  refine mi_in (own := "UrnHeap") (lv := [(0, .ref (ad 132)), (1, .int (iI a1)), (2, .int (iI a2))]) (by decide) rfl rfl (Nat.le_of_ble_eq_true rfl) (fun X C E => ?_)
  unfold f_X11_urnOf at h
  refine xx_aload_n C 1 rfl 0 dX11_urnOf_0 rfl rfl ?_
  refine xx_getr (fi := 0) C 4 rfl (by decide) (ceX_132 _ _ _) rfl in_X11 (by decide) rfl rfl w_396 dX11_urnOf_1 ?_
  refine xx_iload_n C 5 rfl 1 dX11_urnOf_4 rfl rfl ?_
  refine xx_cVip (As := [.int (iI a1)]) (st := []) (o := 0) C 8 rfl (by decide) (ceX_0 _ _ _) rfl rfl ca_X2_hasUrn cv_X2_hasUrn w_553 rfl ⟨Nat.le_of_ble_eq_true rfl, Nat.le_of_ble_eq_true rfl⟩ ⟨Nat.le_of_ble_eq_true rfl, Nat.le_of_ble_eq_true rfl⟩ (Nat.le_of_ble_eq_true rfl) dX11_urnOf_5 (fun v5 e9 => c_X2_hasUrn _ _ v5 e9) h (fun v5 h => ?_) rfl
  refine xx_if_ne (tgt := 14) C 11 rfl dX11_urnOf_8 (by decide) h (fun h => ?_) (fun h => ?_)
  · refine xx_iload_n C 15 rfl 2 dX11_urnOf_14 rfl rfl ?_
    refine xx_tsw C [0, 1, 2, 3, 4, 5] _ [52, 62, 72, 81, 90, 100] 110 dX11_urnOf_15 (by decide) rfl h (fun h => ?_) ⟨fun h => ?_, fun h => ?_, fun h => ?_, fun h => ?_, fun h => ?_, fun h => ?_, trivial⟩
    · refine xx_bipush C 112 rfl dX11_urnOf_110 (by decide) ?_
      exact xx_iretp C E rfl ⟨Nat.le_of_ble_eq_true rfl, Nat.le_of_ble_eq_true rfl⟩ dX11_urnOf_112 h
    · refine xx_aload_n C 53 rfl 0 dX11_urnOf_52 rfl rfl ?_
      refine xx_getr (fi := 0) C 56 rfl (by decide) (ceX_132 _ _ _) rfl in_X11 (by decide) rfl rfl w_396 dX11_urnOf_53 ?_
      refine xx_getr (fi := 3) C 59 rfl (by decide) (ceX_0 _ _ _) rfl in_X2 (by decide) rfl rfl w_153 dX11_urnOf_56 ?_
      refine xx_iload_n C 60 rfl 1 dX11_urnOf_59 rfl rfl ?_
      refine xx_iaload C 61 rfl (by decide) (fun row => ceX_4 _ _ row) (by decide) dX11_urnOf_60 h (fun v60 h => ?_)
      exact xx_iretp C E rfl ⟨Nat.le_of_ble_eq_true rfl, Nat.le_of_ble_eq_true rfl⟩ dX11_urnOf_61 h
    · refine xx_aload_n C 63 rfl 0 dX11_urnOf_62 rfl rfl ?_
      refine xx_getr (fi := 0) C 66 rfl (by decide) (ceX_132 _ _ _) rfl in_X11 (by decide) rfl rfl w_396 dX11_urnOf_63 ?_
      refine xx_getr (fi := 2) C 69 rfl (by decide) (ceX_0 _ _ _) rfl in_X2 (by decide) rfl rfl w_147 dX11_urnOf_66 ?_
      refine xx_iload_n C 70 rfl 1 dX11_urnOf_69 rfl rfl ?_
      refine xx_iaload C 71 rfl (by decide) (fun row => ceX_3 _ _ row) (by decide) dX11_urnOf_70 h (fun v70 h => ?_)
      exact xx_iretp C E rfl ⟨Nat.le_of_ble_eq_true rfl, Nat.le_of_ble_eq_true rfl⟩ dX11_urnOf_71 h
    · refine xx_aload_n C 73 rfl 0 dX11_urnOf_72 rfl rfl ?_
      refine xx_getr (fi := 0) C 76 rfl (by decide) (ceX_132 _ _ _) rfl in_X11 (by decide) rfl rfl w_396 dX11_urnOf_73 ?_
      refine xx_iload_n C 77 rfl 1 dX11_urnOf_76 rfl rfl ?_
      refine xx_cVip (As := [.int (iI a1)]) (st := []) (o := 0) C 80 rfl (by decide) (ceX_0 _ _ _) rfl rfl ca_X2_threadsFrom cv_X2_threadsFrom w_554 rfl ⟨Nat.le_of_ble_eq_true rfl, Nat.le_of_ble_eq_true rfl⟩ ⟨Nat.le_of_ble_eq_true rfl, Nat.le_of_ble_eq_true rfl⟩ (Nat.le_of_ble_eq_true rfl) dX11_urnOf_77 (fun v77 e9 => c_X2_threadsFrom _ _ v77 e9) h (fun v77 h => ?_) rfl
      exact xx_iretp C E rfl ⟨Nat.le_of_ble_eq_true rfl, Nat.le_of_ble_eq_true rfl⟩ dX11_urnOf_80 h
    · refine xx_aload_n C 82 rfl 0 dX11_urnOf_81 rfl rfl ?_
      refine xx_getr (fi := 0) C 85 rfl (by decide) (ceX_132 _ _ _) rfl in_X11 (by decide) rfl rfl w_396 dX11_urnOf_82 ?_
      refine xx_iload_n C 86 rfl 1 dX11_urnOf_85 rfl rfl ?_
      refine xx_cVip (As := [.int (iI a1)]) (st := []) (o := 0) C 89 rfl (by decide) (ceX_0 _ _ _) rfl rfl ca_X2_holdersOf cv_X2_holdersOf w_559 rfl ⟨Nat.le_of_ble_eq_true rfl, Nat.le_of_ble_eq_true rfl⟩ ⟨Nat.le_of_ble_eq_true rfl, Nat.le_of_ble_eq_true rfl⟩ (Nat.le_of_ble_eq_true rfl) dX11_urnOf_86 (fun v86 e9 => c_X2_holdersOf _ _ v86 e9) h (fun v86 h => ?_) rfl
      exact xx_iretp C E rfl ⟨Nat.le_of_ble_eq_true rfl, Nat.le_of_ble_eq_true rfl⟩ dX11_urnOf_89 h
    · refine xx_aload_n C 91 rfl 0 dX11_urnOf_90 rfl rfl ?_
      refine xx_getr (fi := 0) C 94 rfl (by decide) (ceX_132 _ _ _) rfl in_X11 (by decide) rfl rfl w_396 dX11_urnOf_91 ?_
      refine xx_getr (fi := 1) C 97 rfl (by decide) (ceX_0 _ _ _) rfl in_X2 (by decide) rfl rfl w_141 dX11_urnOf_94 ?_
      refine xx_iload_n C 98 rfl 1 dX11_urnOf_97 rfl rfl ?_
      refine xx_iaload C 99 rfl (by decide) (fun row => ceX_2 _ _ row) (by decide) dX11_urnOf_98 h (fun v98 h => ?_)
      exact xx_iretp C E rfl ⟨Nat.le_of_ble_eq_true rfl, Nat.le_of_ble_eq_true rfl⟩ dX11_urnOf_99 h
    · refine xx_aload_n C 101 rfl 0 dX11_urnOf_100 rfl rfl ?_
      refine xx_getr (fi := 0) C 104 rfl (by decide) (ceX_132 _ _ _) rfl in_X11 (by decide) rfl rfl w_396 dX11_urnOf_101 ?_
      refine xx_getr (fi := 4) C 107 rfl (by decide) (ceX_0 _ _ _) rfl in_X2 (by decide) rfl rfl w_156 dX11_urnOf_104 ?_
      refine xx_iload_n C 108 rfl 1 dX11_urnOf_107 rfl rfl ?_
      refine xx_iaload C 109 rfl (by decide) (fun row => ceX_5 _ _ row) (by decide) dX11_urnOf_108 h (fun v108 h => ?_)
      exact xx_iretp C E rfl ⟨Nat.le_of_ble_eq_true rfl, Nat.le_of_ble_eq_true rfl⟩ dX11_urnOf_109 h
  · refine xx_bipush C 13 rfl dX11_urnOf_11 (by decide) ?_
    exact xx_iretp C E rfl ⟨Nat.le_of_ble_eq_true rfl, Nat.le_of_ble_eq_true rfl⟩ dX11_urnOf_13 h

def f_X11_threadOf (μ : mu_T) (a1 : Int) (a2 : Int) : Option Int :=
  bd_ (f_X2_hasUrn μ a1) (fun v5 => eq_ v5 0
      (some (-11))
      (bd_ (f_X11_isSlot μ a2) (fun v12 => eq_ v12 0
      (some (-11))
      (bd_ (f_X2_target μ a1 a2) (fun v27 => some v27)))))
set_option maxHeartbeats 4000000 in
set_option maxRecDepth 100000 in
theorem c_X11_threadOf {G : gp_} {ad : Nat → Nat} (μ : mu_T) (a1 : Int) (a2 : Int) (a : Int) (h : f_X11_threadOf μ a1 a2 = some a) : mi_ yX11_threadOf cX11_threadOf 3 (some .int) ({ frames := 2, cells := 0, slots := 0, locals := 42 } : Room) G 151 ad (ceX G ad) [.ref (ad 132), .int (iI a1), .int (iI a2)] μ a μ := by
  refine mi_in (own := "UrnHeap") (lv := [(0, .ref (ad 132)), (1, .int (iI a1)), (2, .int (iI a2))]) (by decide) rfl rfl (Nat.le_of_ble_eq_true rfl) (fun X C E => ?_)
  unfold f_X11_threadOf at h
  refine xx_aload_n C 1 rfl 0 dX11_threadOf_0 rfl rfl ?_
  refine xx_getr (fi := 0) C 4 rfl (by decide) (ceX_132 _ _ _) rfl in_X11 (by decide) rfl rfl w_396 dX11_threadOf_1 ?_
  refine xx_iload_n C 5 rfl 1 dX11_threadOf_4 rfl rfl ?_
  refine xx_cVip (As := [.int (iI a1)]) (st := []) (o := 0) C 8 rfl (by decide) (ceX_0 _ _ _) rfl rfl ca_X2_hasUrn cv_X2_hasUrn w_553 rfl ⟨Nat.le_of_ble_eq_true rfl, Nat.le_of_ble_eq_true rfl⟩ ⟨Nat.le_of_ble_eq_true rfl, Nat.le_of_ble_eq_true rfl⟩ (Nat.le_of_ble_eq_true rfl) dX11_threadOf_5 (fun v5 e9 => c_X2_hasUrn _ _ v5 e9) h (fun v5 h => ?_) rfl
  refine xx_if_eq (tgt := 18) C 11 rfl dX11_threadOf_8 (by decide) h (fun h => ?_) (fun h => ?_)
  · refine xx_bipush C 20 rfl dX11_threadOf_18 (by decide) ?_
    exact xx_iretp C E rfl ⟨Nat.le_of_ble_eq_true rfl, Nat.le_of_ble_eq_true rfl⟩ dX11_threadOf_20 h
  · refine xx_iload_n C 12 rfl 2 dX11_threadOf_11 rfl rfl ?_
    refine xx_cSip (As := [.int (iI a2)]) (st := []) C 15 rfl  ca_X11_isSlot cs_X11_isSlot w_567 rfl ⟨Nat.le_of_ble_eq_true rfl, Nat.le_of_ble_eq_true rfl⟩ ⟨Nat.le_of_ble_eq_true rfl, Nat.le_of_ble_eq_true rfl⟩ (Nat.le_of_ble_eq_true rfl) dX11_threadOf_12 (fun v12 e9 => c_X11_isSlot _ _ v12 e9) h (fun v12 h => ?_) rfl
    refine xx_if_ne (tgt := 21) C 18 rfl dX11_threadOf_15 (by decide) h (fun h => ?_) (fun h => ?_)
    · refine xx_aload_n C 22 rfl 0 dX11_threadOf_21 rfl rfl ?_
      refine xx_getr (fi := 0) C 25 rfl (by decide) (ceX_132 _ _ _) rfl in_X11 (by decide) rfl rfl w_396 dX11_threadOf_22 ?_
      refine xx_iload_n C 26 rfl 1 dX11_threadOf_25 rfl rfl ?_
      refine xx_iload_n C 27 rfl 2 dX11_threadOf_26 rfl rfl ?_
      refine xx_cVip (As := [.int (iI a1), .int (iI a2)]) (st := []) (o := 0) C 30 rfl (by decide) (ceX_0 _ _ _) rfl rfl ca_X2_target cv_X2_target w_568 rfl ⟨Nat.le_of_ble_eq_true rfl, Nat.le_of_ble_eq_true rfl⟩ ⟨Nat.le_of_ble_eq_true rfl, Nat.le_of_ble_eq_true rfl⟩ (Nat.le_of_ble_eq_true rfl) dX11_threadOf_27 (fun v27 e9 => c_X2_target _ _ _ v27 e9) h (fun v27 h => ?_) rfl
      exact xx_iretp C E rfl ⟨Nat.le_of_ble_eq_true rfl, Nat.le_of_ble_eq_true rfl⟩ dX11_threadOf_30 h
    · refine xx_bipush C 20 rfl dX11_threadOf_18 (by decide) ?_
      exact xx_iretp C E rfl ⟨Nat.le_of_ble_eq_true rfl, Nat.le_of_ble_eq_true rfl⟩ dX11_threadOf_20 h

def f_X11_named (μ : mu_T) (a1 : Int) : Option Int :=
  bd_ (f_X11_isName μ a1) (fun v1 => eq_ v1 0
      (some (-11))
      (rd_ μ 6 6 a1 (fun v15 => some v15)))
set_option maxHeartbeats 4000000 in
set_option maxRecDepth 100000 in
theorem c_X11_named {G : gp_} {ad : Nat → Nat} (μ : mu_T) (a1 : Int) (a : Int) (h : f_X11_named μ a1 = some a) : mi_ yX11_named cX11_named 2 (some .int) ({ frames := 1, cells := 0, slots := 0, locals := 20 } : Room) G 151 ad (ceX G ad) [.ref (ad 132), .int (iI a1)] μ a μ := by
  refine mi_in (own := "UrnHeap") (lv := [(0, .ref (ad 132)), (1, .int (iI a1))]) (by decide) rfl rfl (Nat.le_of_ble_eq_true rfl) (fun X C E => ?_)
  unfold f_X11_named at h
  refine xx_iload_n C 1 rfl 1 dX11_named_0 rfl rfl ?_
  refine xx_cSip (As := [.int (iI a1)]) (st := []) C 4 rfl  ca_X11_isName cs_X11_isName w_573 rfl ⟨Nat.le_of_ble_eq_true rfl, Nat.le_of_ble_eq_true rfl⟩ ⟨Nat.le_of_ble_eq_true rfl, Nat.le_of_ble_eq_true rfl⟩ (Nat.le_of_ble_eq_true rfl) dX11_named_1 (fun v1 e9 => c_X11_isName _ _ v1 e9) h (fun v1 h => ?_) rfl
  refine xx_if_eq (tgt := 19) C 7 rfl dX11_named_4 (by decide) h (fun h => ?_) (fun h => ?_)
  · refine xx_bipush C 21 rfl dX11_named_19 (by decide) ?_
    exact xx_iretp C E rfl ⟨Nat.le_of_ble_eq_true rfl, Nat.le_of_ble_eq_true rfl⟩ dX11_named_21 h
  · refine xx_aload_n C 8 rfl 0 dX11_named_7 rfl rfl ?_
    refine xx_getr (fi := 0) C 11 rfl (by decide) (ceX_132 _ _ _) rfl in_X11 (by decide) rfl rfl w_396 dX11_named_8 ?_
    refine xx_getr (fi := 5) C 14 rfl (by decide) (ceX_0 _ _ _) rfl in_X2 (by decide) rfl rfl w_161 dX11_named_11 ?_
    refine xx_iload_n C 15 rfl 1 dX11_named_14 rfl rfl ?_
    refine xx_iaload C 16 rfl (by decide) (fun row => ceX_6 _ _ row) (by decide) dX11_named_15 h (fun v15 h => ?_)
    refine xx_goto C 21 dX11_named_16 (by decide) ?_
    exact xx_iretp C E rfl ⟨Nat.le_of_ble_eq_true rfl, Nat.le_of_ble_eq_true rfl⟩ dX11_named_21 h

def f_X11_begin (μ : mu_T)  : Option (Int × mu_T) :=
  bd_ (f_X3_keepBefore μ) (fun μ4 => bp_ (f_X10_beginRound μ4) (fun v15 μ15 => bp_ (f_X3_settle μ15 v15) (fun v18 μ18 => some (v18, μ18))))
set_option maxHeartbeats 4000000 in
set_option maxRecDepth 100000 in
theorem c_X11_begin {G : gp_} {ad : Nat → Nat} (μ : mu_T)  (a : Int) (μr : mu_T) (h : f_X11_begin μ  = some (a, μr)) : mi_ yX11_begin cX11_begin 1 (some .int) ({ frames := 4, cells := 0, slots := 0, locals := 83 } : Room) G 151 ad (ceX G ad) [.ref (ad 132)] μ a μr := by
  refine mi_in (own := "UrnHeap") (lv := [(0, .ref (ad 132))]) (by decide) rfl rfl (Nat.le_of_ble_eq_true rfl) (fun X C E => ?_)
  unfold f_X11_begin at h
  refine xx_aload_n C 1 rfl 0 dX11_begin_0 rfl rfl ?_
  refine xx_getr (fi := 5) C 4 rfl (by decide) (ceX_132 _ _ _) rfl in_X11 (by decide) rfl rfl w_401 dX11_begin_1 ?_
  refine xx_cVv (As := []) (st := []) (o := 138) C 7 rfl (by decide) (ceX_138 _ _ _) rfl rfl ca_X3_keepBefore cv_X3_keepBefore w_425 rfl ⟨Nat.le_of_ble_eq_true rfl, Nat.le_of_ble_eq_true rfl⟩ ⟨Nat.le_of_ble_eq_true rfl, Nat.le_of_ble_eq_true rfl⟩ (Nat.le_of_ble_eq_true rfl) dX11_begin_4 (fun μ4 e9 => c_X3_keepBefore _ μ4 e9) h (fun μ4 h => ?_) rfl
  refine xx_aload_n C 8 rfl 0 dX11_begin_7 rfl rfl ?_
  refine xx_getr (fi := 5) C 11 rfl (by decide) (ceX_132 _ _ _) rfl in_X11 (by decide) rfl rfl w_401 dX11_begin_8 ?_
  refine xx_aload_n C 12 rfl 0 dX11_begin_11 rfl rfl ?_
  refine xx_getr (fi := 3) C 15 rfl (by decide) (ceX_132 _ _ _) rfl in_X11 (by decide) rfl rfl w_399 dX11_begin_12 ?_
  refine xx_cVi (As := []) (st := [.ref (ad 138)]) (o := 135) C 18 rfl (by decide) (ceX_135 _ _ _) rfl rfl ca_X10_beginRound cv_X10_beginRound w_578 rfl ⟨Nat.le_of_ble_eq_true rfl, Nat.le_of_ble_eq_true rfl⟩ ⟨Nat.le_of_ble_eq_true rfl, Nat.le_of_ble_eq_true rfl⟩ (Nat.le_of_ble_eq_true rfl) dX11_begin_15 (fun v15 μ15 e9 => c_X10_beginRound _ v15 μ15 e9) h (fun v15 μ15 h => ?_) rfl
  refine xx_cVi (As := [.int (iI v15)]) (st := []) (o := 138) C 21 rfl (by decide) (ceX_138 _ _ _) rfl rfl ca_X3_settle cv_X3_settle w_457 rfl ⟨Nat.le_of_ble_eq_true rfl, Nat.le_of_ble_eq_true rfl⟩ ⟨Nat.le_of_ble_eq_true rfl, Nat.le_of_ble_eq_true rfl⟩ (Nat.le_of_ble_eq_true rfl) dX11_begin_18 (fun v18 μ18 e9 => c_X3_settle _ _ v18 μ18 e9) h (fun v18 μ18 h => ?_) rfl
  exact xx_iret C E rfl ⟨Nat.le_of_ble_eq_true rfl, Nat.le_of_ble_eq_true rfl⟩ dX11_begin_21 h

def f_X11_step (μ : mu_T) (a1 : Int) : Option (Int × mu_T) :=
  bd_ (f_X3_keepBefore μ) (fun μ4 => bp_ (f_X10_doParts μ4 a1) (fun v16 μ16 => bp_ (f_X3_settle μ16 v16) (fun v19 μ19 => some (v19, μ19))))
set_option maxHeartbeats 4000000 in
set_option maxRecDepth 100000 in
theorem c_X11_step {G : gp_} {ad : Nat → Nat} (μ : mu_T) (a1 : Int) (a : Int) (μr : mu_T) (h : f_X11_step μ a1 = some (a, μr)) : mi_ yX11_step cX11_step 2 (some .int) ({ frames := 5, cells := 0, slots := 0, locals := 107 } : Room) G 151 ad (ceX G ad) [.ref (ad 132), .int (iI a1)] μ a μr := by
  refine mi_in (own := "UrnHeap") (lv := [(0, .ref (ad 132)), (1, .int (iI a1))]) (by decide) rfl rfl (Nat.le_of_ble_eq_true rfl) (fun X C E => ?_)
  unfold f_X11_step at h
  refine xx_aload_n C 1 rfl 0 dX11_step_0 rfl rfl ?_
  refine xx_getr (fi := 5) C 4 rfl (by decide) (ceX_132 _ _ _) rfl in_X11 (by decide) rfl rfl w_401 dX11_step_1 ?_
  refine xx_cVv (As := []) (st := []) (o := 138) C 7 rfl (by decide) (ceX_138 _ _ _) rfl rfl ca_X3_keepBefore cv_X3_keepBefore w_425 rfl ⟨Nat.le_of_ble_eq_true rfl, Nat.le_of_ble_eq_true rfl⟩ ⟨Nat.le_of_ble_eq_true rfl, Nat.le_of_ble_eq_true rfl⟩ (Nat.le_of_ble_eq_true rfl) dX11_step_4 (fun μ4 e9 => c_X3_keepBefore _ μ4 e9) h (fun μ4 h => ?_) rfl
  refine xx_aload_n C 8 rfl 0 dX11_step_7 rfl rfl ?_
  refine xx_getr (fi := 5) C 11 rfl (by decide) (ceX_132 _ _ _) rfl in_X11 (by decide) rfl rfl w_401 dX11_step_8 ?_
  refine xx_aload_n C 12 rfl 0 dX11_step_11 rfl rfl ?_
  refine xx_getr (fi := 3) C 15 rfl (by decide) (ceX_132 _ _ _) rfl in_X11 (by decide) rfl rfl w_399 dX11_step_12 ?_
  refine xx_iload_n C 16 rfl 1 dX11_step_15 rfl rfl ?_
  refine xx_cVi (As := [.int (iI a1)]) (st := [.ref (ad 138)]) (o := 135) C 19 rfl (by decide) (ceX_135 _ _ _) rfl rfl ca_X10_doParts cv_X10_doParts w_596 rfl ⟨Nat.le_of_ble_eq_true rfl, Nat.le_of_ble_eq_true rfl⟩ ⟨Nat.le_of_ble_eq_true rfl, Nat.le_of_ble_eq_true rfl⟩ (Nat.le_of_ble_eq_true rfl) dX11_step_16 (fun v16 μ16 e9 => c_X10_doParts _ _ v16 μ16 e9) h (fun v16 μ16 h => ?_) rfl
  refine xx_cVi (As := [.int (iI v16)]) (st := []) (o := 138) C 22 rfl (by decide) (ceX_138 _ _ _) rfl rfl ca_X3_settle cv_X3_settle w_457 rfl ⟨Nat.le_of_ble_eq_true rfl, Nat.le_of_ble_eq_true rfl⟩ ⟨Nat.le_of_ble_eq_true rfl, Nat.le_of_ble_eq_true rfl⟩ (Nat.le_of_ble_eq_true rfl) dX11_step_19 (fun v19 μ19 e9 => c_X3_settle _ _ v19 μ19 e9) h (fun v19 μ19 h => ?_) rfl
  exact xx_iret C E rfl ⟨Nat.le_of_ble_eq_true rfl, Nat.le_of_ble_eq_true rfl⟩ dX11_step_22 h

def f_X11_round (μ : mu_T)  : Option (Int × mu_T) :=
  bd_ (f_X3_keepBefore μ) (fun μ4 => bp_ (f_X10_endRound μ4) (fun v15 μ15 => bp_ (f_X3_settle μ15 v15) (fun v18 μ18 => some (v18, μ18))))
set_option maxHeartbeats 4000000 in
set_option maxRecDepth 100000 in
theorem c_X11_round {G : gp_} {ad : Nat → Nat} (μ : mu_T)  (a : Int) (μr : mu_T) (h : f_X11_round μ  = some (a, μr)) : mi_ yX11_round cX11_round 1 (some .int) ({ frames := 5, cells := 0, slots := 0, locals := 107 } : Room) G 151 ad (ceX G ad) [.ref (ad 132)] μ a μr := by
  refine mi_in (own := "UrnHeap") (lv := [(0, .ref (ad 132))]) (by decide) rfl rfl (Nat.le_of_ble_eq_true rfl) (fun X C E => ?_)
  unfold f_X11_round at h
  refine xx_aload_n C 1 rfl 0 dX11_round_0 rfl rfl ?_
  refine xx_getr (fi := 5) C 4 rfl (by decide) (ceX_132 _ _ _) rfl in_X11 (by decide) rfl rfl w_401 dX11_round_1 ?_
  refine xx_cVv (As := []) (st := []) (o := 138) C 7 rfl (by decide) (ceX_138 _ _ _) rfl rfl ca_X3_keepBefore cv_X3_keepBefore w_425 rfl ⟨Nat.le_of_ble_eq_true rfl, Nat.le_of_ble_eq_true rfl⟩ ⟨Nat.le_of_ble_eq_true rfl, Nat.le_of_ble_eq_true rfl⟩ (Nat.le_of_ble_eq_true rfl) dX11_round_4 (fun μ4 e9 => c_X3_keepBefore _ μ4 e9) h (fun μ4 h => ?_) rfl
  refine xx_aload_n C 8 rfl 0 dX11_round_7 rfl rfl ?_
  refine xx_getr (fi := 5) C 11 rfl (by decide) (ceX_132 _ _ _) rfl in_X11 (by decide) rfl rfl w_401 dX11_round_8 ?_
  refine xx_aload_n C 12 rfl 0 dX11_round_11 rfl rfl ?_
  refine xx_getr (fi := 3) C 15 rfl (by decide) (ceX_132 _ _ _) rfl in_X11 (by decide) rfl rfl w_399 dX11_round_12 ?_
  refine xx_cVi (As := []) (st := [.ref (ad 138)]) (o := 135) C 18 rfl (by decide) (ceX_135 _ _ _) rfl rfl ca_X10_endRound cv_X10_endRound w_638 rfl ⟨Nat.le_of_ble_eq_true rfl, Nat.le_of_ble_eq_true rfl⟩ ⟨Nat.le_of_ble_eq_true rfl, Nat.le_of_ble_eq_true rfl⟩ (Nat.le_of_ble_eq_true rfl) dX11_round_15 (fun v15 μ15 e9 => c_X10_endRound _ v15 μ15 e9) h (fun v15 μ15 h => ?_) rfl
  refine xx_cVi (As := [.int (iI v15)]) (st := []) (o := 138) C 21 rfl (by decide) (ceX_138 _ _ _) rfl rfl ca_X3_settle cv_X3_settle w_457 rfl ⟨Nat.le_of_ble_eq_true rfl, Nat.le_of_ble_eq_true rfl⟩ ⟨Nat.le_of_ble_eq_true rfl, Nat.le_of_ble_eq_true rfl⟩ (Nat.le_of_ble_eq_true rfl) dX11_round_18 (fun v18 μ18 e9 => c_X3_settle _ _ v18 μ18 e9) h (fun v18 μ18 h => ?_) rfl
  exact xx_iret C E rfl ⟨Nat.le_of_ble_eq_true rfl, Nat.le_of_ble_eq_true rfl⟩ dX11_round_21 h

def f_X11_rite (μ : mu_T)  : Option (Int × mu_T) :=
  bd_ (f_X3_keepBefore μ) (fun μ4 => bp_ (f_X10_doRite μ4) (fun v15 μ15 => bp_ (f_X3_settle μ15 v15) (fun v18 μ18 => some (v18, μ18))))
set_option maxHeartbeats 4000000 in
set_option maxRecDepth 100000 in
theorem c_X11_rite {G : gp_} {ad : Nat → Nat} (μ : mu_T)  (a : Int) (μr : mu_T) (h : f_X11_rite μ  = some (a, μr)) : mi_ yX11_rite cX11_rite 1 (some .int) ({ frames := 4, cells := 0, slots := 0, locals := 81 } : Room) G 151 ad (ceX G ad) [.ref (ad 132)] μ a μr := by
  refine mi_in (own := "UrnHeap") (lv := [(0, .ref (ad 132))]) (by decide) rfl rfl (Nat.le_of_ble_eq_true rfl) (fun X C E => ?_)
  unfold f_X11_rite at h
  refine xx_aload_n C 1 rfl 0 dX11_rite_0 rfl rfl ?_
  refine xx_getr (fi := 5) C 4 rfl (by decide) (ceX_132 _ _ _) rfl in_X11 (by decide) rfl rfl w_401 dX11_rite_1 ?_
  refine xx_cVv (As := []) (st := []) (o := 138) C 7 rfl (by decide) (ceX_138 _ _ _) rfl rfl ca_X3_keepBefore cv_X3_keepBefore w_425 rfl ⟨Nat.le_of_ble_eq_true rfl, Nat.le_of_ble_eq_true rfl⟩ ⟨Nat.le_of_ble_eq_true rfl, Nat.le_of_ble_eq_true rfl⟩ (Nat.le_of_ble_eq_true rfl) dX11_rite_4 (fun μ4 e9 => c_X3_keepBefore _ μ4 e9) h (fun μ4 h => ?_) rfl
  refine xx_aload_n C 8 rfl 0 dX11_rite_7 rfl rfl ?_
  refine xx_getr (fi := 5) C 11 rfl (by decide) (ceX_132 _ _ _) rfl in_X11 (by decide) rfl rfl w_401 dX11_rite_8 ?_
  refine xx_aload_n C 12 rfl 0 dX11_rite_11 rfl rfl ?_
  refine xx_getr (fi := 3) C 15 rfl (by decide) (ceX_132 _ _ _) rfl in_X11 (by decide) rfl rfl w_399 dX11_rite_12 ?_
  refine xx_cVi (As := []) (st := [.ref (ad 138)]) (o := 135) C 18 rfl (by decide) (ceX_135 _ _ _) rfl rfl ca_X10_doRite cv_X10_doRite w_646 rfl ⟨Nat.le_of_ble_eq_true rfl, Nat.le_of_ble_eq_true rfl⟩ ⟨Nat.le_of_ble_eq_true rfl, Nat.le_of_ble_eq_true rfl⟩ (Nat.le_of_ble_eq_true rfl) dX11_rite_15 (fun v15 μ15 e9 => c_X10_doRite _ v15 μ15 e9) h (fun v15 μ15 h => ?_) rfl
  refine xx_cVi (As := [.int (iI v15)]) (st := []) (o := 138) C 21 rfl (by decide) (ceX_138 _ _ _) rfl rfl ca_X3_settle cv_X3_settle w_457 rfl ⟨Nat.le_of_ble_eq_true rfl, Nat.le_of_ble_eq_true rfl⟩ ⟨Nat.le_of_ble_eq_true rfl, Nat.le_of_ble_eq_true rfl⟩ (Nat.le_of_ble_eq_true rfl) dX11_rite_18 (fun v18 μ18 e9 => c_X3_settle _ _ v18 μ18 e9) h (fun v18 μ18 h => ?_) rfl
  exact xx_iret C E rfl ⟨Nat.le_of_ble_eq_true rfl, Nat.le_of_ble_eq_true rfl⟩ dX11_rite_21 h

def f_X11_due (μ : mu_T) (a1 : Int) : Option Int :=
  bd_ (f_X9_at_o10 μ a1) (fun v8 => some v8)
set_option maxHeartbeats 4000000 in
set_option maxRecDepth 100000 in
theorem c_X11_due {G : gp_} {ad : Nat → Nat} (μ : mu_T) (a1 : Int) (a : Int) (h : f_X11_due μ a1 = some a) : mi_ yX11_due cX11_due 2 (some .int) ({ frames := 1, cells := 0, slots := 0, locals := 21 } : Room) G 151 ad (ceX G ad) [.ref (ad 132), .int (iI a1)] μ a μ := by
  refine mi_in (own := "UrnHeap") (lv := [(0, .ref (ad 132)), (1, .int (iI a1))]) (by decide) rfl rfl (Nat.le_of_ble_eq_true rfl) (fun X C E => ?_)
  unfold f_X11_due at h
  refine xx_aload_n C 1 rfl 0 dX11_due_0 rfl rfl ?_
  refine xx_getr (fi := 0) C 4 rfl (by decide) (ceX_132 _ _ _) rfl in_X11 (by decide) rfl rfl w_396 dX11_due_1 ?_
  refine xx_getr (fi := 8) C 7 rfl (by decide) (ceX_0 _ _ _) rfl in_X2 (by decide) rfl rfl w_168 dX11_due_4 ?_
  refine xx_iload_n C 8 rfl 1 dX11_due_7 rfl rfl ?_
  refine xx_cVip (As := [.int (iI a1)]) (st := []) (o := 10) C 11 rfl (by decide) (ceX_10 _ _ _) rfl rfl ca_X9_at cv_X9_at w_654 rfl ⟨Nat.le_of_ble_eq_true rfl, Nat.le_of_ble_eq_true rfl⟩ ⟨Nat.le_of_ble_eq_true rfl, Nat.le_of_ble_eq_true rfl⟩ (Nat.le_of_ble_eq_true rfl) dX11_due_8 (fun v8 e9 => c_X9_at_o10 _ _ v8 e9) h (fun v8 h => ?_) rfl
  exact xx_iretp C E rfl ⟨Nat.le_of_ble_eq_true rfl, Nat.le_of_ble_eq_true rfl⟩ dX11_due_11 h

def f_X11_grey (μ : mu_T) (a1 : Int) : Option Int :=
  bd_ (f_X9_at μ a1) (fun v8 => some v8)
set_option maxHeartbeats 4000000 in
set_option maxRecDepth 100000 in
theorem c_X11_grey {G : gp_} {ad : Nat → Nat} (μ : mu_T) (a1 : Int) (a : Int) (h : f_X11_grey μ a1 = some a) : mi_ yX11_grey cX11_grey 2 (some .int) ({ frames := 1, cells := 0, slots := 0, locals := 21 } : Room) G 151 ad (ceX G ad) [.ref (ad 132), .int (iI a1)] μ a μ := by
  refine mi_in (own := "UrnHeap") (lv := [(0, .ref (ad 132)), (1, .int (iI a1))]) (by decide) rfl rfl (Nat.le_of_ble_eq_true rfl) (fun X C E => ?_)
  unfold f_X11_grey at h
  refine xx_aload_n C 1 rfl 0 dX11_grey_0 rfl rfl ?_
  refine xx_getr (fi := 0) C 4 rfl (by decide) (ceX_132 _ _ _) rfl in_X11 (by decide) rfl rfl w_396 dX11_grey_1 ?_
  refine xx_getr (fi := 7) C 7 rfl (by decide) (ceX_0 _ _ _) rfl in_X2 (by decide) rfl rfl w_165 dX11_grey_4 ?_
  refine xx_iload_n C 8 rfl 1 dX11_grey_7 rfl rfl ?_
  refine xx_cVip (As := [.int (iI a1)]) (st := []) (o := 8) C 11 rfl (by decide) (ceX_8 _ _ _) rfl rfl ca_X9_at cv_X9_at w_654 rfl ⟨Nat.le_of_ble_eq_true rfl, Nat.le_of_ble_eq_true rfl⟩ ⟨Nat.le_of_ble_eq_true rfl, Nat.le_of_ble_eq_true rfl⟩ (Nat.le_of_ble_eq_true rfl) dX11_grey_8 (fun v8 e9 => c_X9_at _ _ v8 e9) h (fun v8 h => ?_) rfl
  exact xx_iretp C E rfl ⟨Nat.le_of_ble_eq_true rfl, Nat.le_of_ble_eq_true rfl⟩ dX11_grey_11 h

def f_X11_freed (μ : mu_T) (a1 : Int) : Option Int :=
  bd_ (f_X2_freedLate μ a1) (fun v5 => some v5)
set_option maxHeartbeats 4000000 in
set_option maxRecDepth 100000 in
theorem c_X11_freed {G : gp_} {ad : Nat → Nat} (μ : mu_T) (a1 : Int) (a : Int) (h : f_X11_freed μ a1 = some a) : mi_ yX11_freed cX11_freed 2 (some .int) ({ frames := 1, cells := 0, slots := 0, locals := 21 } : Room) G 151 ad (ceX G ad) [.ref (ad 132), .int (iI a1)] μ a μ := by
  refine mi_in (own := "UrnHeap") (lv := [(0, .ref (ad 132)), (1, .int (iI a1))]) (by decide) rfl rfl (Nat.le_of_ble_eq_true rfl) (fun X C E => ?_)
  unfold f_X11_freed at h
  refine xx_aload_n C 1 rfl 0 dX11_freed_0 rfl rfl ?_
  refine xx_getr (fi := 0) C 4 rfl (by decide) (ceX_132 _ _ _) rfl in_X11 (by decide) rfl rfl w_396 dX11_freed_1 ?_
  refine xx_iload_n C 5 rfl 1 dX11_freed_4 rfl rfl ?_
  refine xx_cVip (As := [.int (iI a1)]) (st := []) (o := 0) C 8 rfl (by decide) (ceX_0 _ _ _) rfl rfl ca_X2_freedLate cv_X2_freedLate w_663 rfl ⟨Nat.le_of_ble_eq_true rfl, Nat.le_of_ble_eq_true rfl⟩ ⟨Nat.le_of_ble_eq_true rfl, Nat.le_of_ble_eq_true rfl⟩ (Nat.le_of_ble_eq_true rfl) dX11_freed_5 (fun v5 e9 => c_X2_freedLate _ _ v5 e9) h (fun v5 h => ?_) rfl
  exact xx_iretp C E rfl ⟨Nat.le_of_ble_eq_true rfl, Nat.le_of_ble_eq_true rfl⟩ dX11_freed_8 h

def f_X11_live (μ : mu_T)  : Option Int :=
  bd_ (f_X7_reach μ) (fun v4 => some v4)
set_option maxHeartbeats 4000000 in
set_option maxRecDepth 100000 in
theorem c_X11_live {G : gp_} {ad : Nat → Nat} (μ : mu_T)  (a : Int) (h : f_X11_live μ  = some a) : mi_ yX11_live cX11_live 1 (some .int) ({ frames := 6, cells := 0, slots := 0, locals := 132 } : Room) G 151 ad (ceX G ad) [.ref (ad 132)] μ a μ := by
  refine mi_in (own := "UrnHeap") (lv := [(0, .ref (ad 132))]) (by decide) rfl rfl (Nat.le_of_ble_eq_true rfl) (fun X C E => ?_)
  unfold f_X11_live at h
  refine xx_aload_n C 1 rfl 0 dX11_live_0 rfl rfl ?_
  refine xx_getr (fi := 4) C 4 rfl (by decide) (ceX_132 _ _ _) rfl in_X11 (by decide) rfl rfl w_400 dX11_live_1 ?_
  refine xx_cVip (As := []) (st := []) (o := 136) C 7 rfl (by decide) (ceX_136 _ _ _) rfl rfl ca_X7_reach cv_X7_reach w_671 rfl ⟨Nat.le_of_ble_eq_true rfl, Nat.le_of_ble_eq_true rfl⟩ ⟨Nat.le_of_ble_eq_true rfl, Nat.le_of_ble_eq_true rfl⟩ (Nat.le_of_ble_eq_true rfl) dX11_live_4 (fun v4 e9 => c_X7_reach _ v4 e9) h (fun v4 h => ?_) rfl
  exact xx_iretp C E rfl ⟨Nat.le_of_ble_eq_true rfl, Nat.le_of_ble_eq_true rfl⟩ dX11_live_7 h

def f_X11_liveAgain (μ : mu_T)  : Option Int :=
  bd_ (f_X7_reachUrnByUrn μ) (fun v4 => some v4)
set_option maxHeartbeats 4000000 in
set_option maxRecDepth 100000 in
theorem c_X11_liveAgain {G : gp_} {ad : Nat → Nat} (μ : mu_T)  (a : Int) (h : f_X11_liveAgain μ  = some a) : mi_ yX11_liveAgain cX11_liveAgain 1 (some .int) ({ frames := 5, cells := 0, slots := 0, locals := 110 } : Room) G 151 ad (ceX G ad) [.ref (ad 132)] μ a μ := by
  refine mi_in (own := "UrnHeap") (lv := [(0, .ref (ad 132))]) (by decide) rfl rfl (Nat.le_of_ble_eq_true rfl) (fun X C E => ?_)
  unfold f_X11_liveAgain at h
  refine xx_aload_n C 1 rfl 0 dX11_liveAgain_0 rfl rfl ?_
  refine xx_getr (fi := 4) C 4 rfl (by decide) (ceX_132 _ _ _) rfl in_X11 (by decide) rfl rfl w_400 dX11_liveAgain_1 ?_
  refine xx_cVip (As := []) (st := []) (o := 136) C 7 rfl (by decide) (ceX_136 _ _ _) rfl rfl ca_X7_reachUrnByUrn cv_X7_reachUrnByUrn w_708 rfl ⟨Nat.le_of_ble_eq_true rfl, Nat.le_of_ble_eq_true rfl⟩ ⟨Nat.le_of_ble_eq_true rfl, Nat.le_of_ble_eq_true rfl⟩ (Nat.le_of_ble_eq_true rfl) dX11_liveAgain_4 (fun v4 e9 => c_X7_reachUrnByUrn _ v4 e9) h (fun v4 h => ?_) rfl
  exact xx_iretp C E rfl ⟨Nat.le_of_ble_eq_true rfl, Nat.le_of_ble_eq_true rfl⟩ dX11_liveAgain_7 h

def f_X11_depth (μ : mu_T) (a1 : Int) : Option Int :=
  bd_ (f_X2_hasUrn μ a1) (fun v5 => eq_ v5 0
      (some (-11))
      (bd_ (f_X7_roots μ (-15)) (fun v21 => bd_ (f_X7_distance μ v21 a1) (fun v25 => some v25))))
set_option maxHeartbeats 4000000 in
set_option maxRecDepth 100000 in
theorem c_X11_depth {G : gp_} {ad : Nat → Nat} (μ : mu_T) (a1 : Int) (a : Int) (h : f_X11_depth μ a1 = some a) : mi_ yX11_depth cX11_depth 2 (some .int) ({ frames := 5, cells := 0, slots := 0, locals := 113 } : Room) G 151 ad (ceX G ad) [.ref (ad 132), .int (iI a1)] μ a μ := by
  refine mi_in (own := "UrnHeap") (lv := [(0, .ref (ad 132)), (1, .int (iI a1))]) (by decide) rfl rfl (Nat.le_of_ble_eq_true rfl) (fun X C E => ?_)
  unfold f_X11_depth at h
  refine xx_aload_n C 1 rfl 0 dX11_depth_0 rfl rfl ?_
  refine xx_getr (fi := 0) C 4 rfl (by decide) (ceX_132 _ _ _) rfl in_X11 (by decide) rfl rfl w_396 dX11_depth_1 ?_
  refine xx_iload_n C 5 rfl 1 dX11_depth_4 rfl rfl ?_
  refine xx_cVip (As := [.int (iI a1)]) (st := []) (o := 0) C 8 rfl (by decide) (ceX_0 _ _ _) rfl rfl ca_X2_hasUrn cv_X2_hasUrn w_553 rfl ⟨Nat.le_of_ble_eq_true rfl, Nat.le_of_ble_eq_true rfl⟩ ⟨Nat.le_of_ble_eq_true rfl, Nat.le_of_ble_eq_true rfl⟩ (Nat.le_of_ble_eq_true rfl) dX11_depth_5 (fun v5 e9 => c_X2_hasUrn _ _ v5 e9) h (fun v5 h => ?_) rfl
  refine xx_if_eq (tgt := 31) C 11 rfl dX11_depth_8 (by decide) h (fun h => ?_) (fun h => ?_)
  · refine xx_bipush C 33 rfl dX11_depth_31 (by decide) ?_
    exact xx_iretp C E rfl ⟨Nat.le_of_ble_eq_true rfl, Nat.le_of_ble_eq_true rfl⟩ dX11_depth_33 h
  · refine xx_aload_n C 12 rfl 0 dX11_depth_11 rfl rfl ?_
    refine xx_getr (fi := 4) C 15 rfl (by decide) (ceX_132 _ _ _) rfl in_X11 (by decide) rfl rfl w_400 dX11_depth_12 ?_
    refine xx_aload_n C 16 rfl 0 dX11_depth_15 rfl rfl ?_
    refine xx_getr (fi := 4) C 19 rfl (by decide) (ceX_132 _ _ _) rfl in_X11 (by decide) rfl rfl w_400 dX11_depth_16 ?_
    refine xx_bipush C 21 rfl dX11_depth_19 (by decide) ?_
    refine xx_cVip (As := [.int (iI (-15))]) (st := [.ref (ad 136)]) (o := 136) C 24 rfl (by decide) (ceX_136 _ _ _) rfl rfl ca_X7_roots cv_X7_roots w_720 rfl ⟨Nat.le_of_ble_eq_true rfl, Nat.le_of_ble_eq_true rfl⟩ ⟨Nat.le_of_ble_eq_true rfl, Nat.le_of_ble_eq_true rfl⟩ (Nat.le_of_ble_eq_true rfl) dX11_depth_21 (fun v21 e9 => c_X7_roots _ _ v21 e9) h (fun v21 h => ?_) rfl
    refine xx_iload_n C 25 rfl 1 dX11_depth_24 rfl rfl ?_
    refine xx_cVip (As := [.int (iI v21), .int (iI a1)]) (st := []) (o := 136) C 28 rfl (by decide) (ceX_136 _ _ _) rfl rfl ca_X7_distance cv_X7_distance w_721 rfl ⟨Nat.le_of_ble_eq_true rfl, Nat.le_of_ble_eq_true rfl⟩ ⟨Nat.le_of_ble_eq_true rfl, Nat.le_of_ble_eq_true rfl⟩ (Nat.le_of_ble_eq_true rfl) dX11_depth_25 (fun v25 e9 => c_X7_distance _ _ _ v25 e9) h (fun v25 h => ?_) rfl
    refine xx_goto C 33 dX11_depth_28 (by decide) ?_
    exact xx_iretp C E rfl ⟨Nat.le_of_ble_eq_true rfl, Nat.le_of_ble_eq_true rfl⟩ dX11_depth_33 h

def f_X11_keepers (μ : mu_T) (a1 : Int) : Option Int :=
  bd_ (f_X2_hasUrn μ a1) (fun v5 => eq_ v5 0
      (some (-11))
      (bd_ (f_X7_neededNames μ a1) (fun v16 => some v16)))
set_option maxHeartbeats 4000000 in
set_option maxRecDepth 100000 in
theorem c_X11_keepers {G : gp_} {ad : Nat → Nat} (μ : mu_T) (a1 : Int) (a : Int) (h : f_X11_keepers μ a1 = some a) : mi_ yX11_keepers cX11_keepers 2 (some .int) ({ frames := 7, cells := 0, slots := 0, locals := 155 } : Room) G 151 ad (ceX G ad) [.ref (ad 132), .int (iI a1)] μ a μ := by
  refine mi_in (own := "UrnHeap") (lv := [(0, .ref (ad 132)), (1, .int (iI a1))]) (by decide) rfl rfl (Nat.le_of_ble_eq_true rfl) (fun X C E => ?_)
  unfold f_X11_keepers at h
  refine xx_aload_n C 1 rfl 0 dX11_keepers_0 rfl rfl ?_
  refine xx_getr (fi := 0) C 4 rfl (by decide) (ceX_132 _ _ _) rfl in_X11 (by decide) rfl rfl w_396 dX11_keepers_1 ?_
  refine xx_iload_n C 5 rfl 1 dX11_keepers_4 rfl rfl ?_
  refine xx_cVip (As := [.int (iI a1)]) (st := []) (o := 0) C 8 rfl (by decide) (ceX_0 _ _ _) rfl rfl ca_X2_hasUrn cv_X2_hasUrn w_553 rfl ⟨Nat.le_of_ble_eq_true rfl, Nat.le_of_ble_eq_true rfl⟩ ⟨Nat.le_of_ble_eq_true rfl, Nat.le_of_ble_eq_true rfl⟩ (Nat.le_of_ble_eq_true rfl) dX11_keepers_5 (fun v5 e9 => c_X2_hasUrn _ _ v5 e9) h (fun v5 h => ?_) rfl
  refine xx_if_eq (tgt := 22) C 11 rfl dX11_keepers_8 (by decide) h (fun h => ?_) (fun h => ?_)
  · refine xx_bipush C 24 rfl dX11_keepers_22 (by decide) ?_
    exact xx_iretp C E rfl ⟨Nat.le_of_ble_eq_true rfl, Nat.le_of_ble_eq_true rfl⟩ dX11_keepers_24 h
  · refine xx_aload_n C 12 rfl 0 dX11_keepers_11 rfl rfl ?_
    refine xx_getr (fi := 4) C 15 rfl (by decide) (ceX_132 _ _ _) rfl in_X11 (by decide) rfl rfl w_400 dX11_keepers_12 ?_
    refine xx_iload_n C 16 rfl 1 dX11_keepers_15 rfl rfl ?_
    refine xx_cVip (As := [.int (iI a1)]) (st := []) (o := 136) C 19 rfl (by decide) (ceX_136 _ _ _) rfl rfl ca_X7_neededNames cv_X7_neededNames w_729 rfl ⟨Nat.le_of_ble_eq_true rfl, Nat.le_of_ble_eq_true rfl⟩ ⟨Nat.le_of_ble_eq_true rfl, Nat.le_of_ble_eq_true rfl⟩ (Nat.le_of_ble_eq_true rfl) dX11_keepers_16 (fun v16 e9 => c_X7_neededNames _ _ v16 e9) h (fun v16 h => ?_) rfl
    refine xx_goto C 24 dX11_keepers_19 (by decide) ?_
    exact xx_iretp C E rfl ⟨Nat.le_of_ble_eq_true rfl, Nat.le_of_ble_eq_true rfl⟩ dX11_keepers_24 h

def f_X11_ring (μ : mu_T) (a1 : Int) : Option Int :=
  bd_ (f_X2_hasUrn μ a1) (fun v5 => eq_ v5 0
      (some (-11))
      (bd_ (f_X7_ringLength μ a1) (fun v16 => some v16)))
set_option maxHeartbeats 4000000 in
set_option maxRecDepth 100000 in
theorem c_X11_ring {G : gp_} {ad : Nat → Nat} (μ : mu_T) (a1 : Int) (a : Int) (h : f_X11_ring μ a1 = some a) : mi_ yX11_ring cX11_ring 2 (some .int) ({ frames := 6, cells := 0, slots := 0, locals := 135 } : Room) G 151 ad (ceX G ad) [.ref (ad 132), .int (iI a1)] μ a μ := by
  refine mi_in (own := "UrnHeap") (lv := [(0, .ref (ad 132)), (1, .int (iI a1))]) (by decide) rfl rfl (Nat.le_of_ble_eq_true rfl) (fun X C E => ?_)
  unfold f_X11_ring at h
  refine xx_aload_n C 1 rfl 0 dX11_ring_0 rfl rfl ?_
  refine xx_getr (fi := 0) C 4 rfl (by decide) (ceX_132 _ _ _) rfl in_X11 (by decide) rfl rfl w_396 dX11_ring_1 ?_
  refine xx_iload_n C 5 rfl 1 dX11_ring_4 rfl rfl ?_
  refine xx_cVip (As := [.int (iI a1)]) (st := []) (o := 0) C 8 rfl (by decide) (ceX_0 _ _ _) rfl rfl ca_X2_hasUrn cv_X2_hasUrn w_553 rfl ⟨Nat.le_of_ble_eq_true rfl, Nat.le_of_ble_eq_true rfl⟩ ⟨Nat.le_of_ble_eq_true rfl, Nat.le_of_ble_eq_true rfl⟩ (Nat.le_of_ble_eq_true rfl) dX11_ring_5 (fun v5 e9 => c_X2_hasUrn _ _ v5 e9) h (fun v5 h => ?_) rfl
  refine xx_if_eq (tgt := 22) C 11 rfl dX11_ring_8 (by decide) h (fun h => ?_) (fun h => ?_)
  · refine xx_bipush C 24 rfl dX11_ring_22 (by decide) ?_
    exact xx_iretp C E rfl ⟨Nat.le_of_ble_eq_true rfl, Nat.le_of_ble_eq_true rfl⟩ dX11_ring_24 h
  · refine xx_aload_n C 12 rfl 0 dX11_ring_11 rfl rfl ?_
    refine xx_getr (fi := 4) C 15 rfl (by decide) (ceX_132 _ _ _) rfl in_X11 (by decide) rfl rfl w_400 dX11_ring_12 ?_
    refine xx_iload_n C 16 rfl 1 dX11_ring_15 rfl rfl ?_
    refine xx_cVip (As := [.int (iI a1)]) (st := []) (o := 136) C 19 rfl (by decide) (ceX_136 _ _ _) rfl rfl ca_X7_ringLength cv_X7_ringLength w_738 rfl ⟨Nat.le_of_ble_eq_true rfl, Nat.le_of_ble_eq_true rfl⟩ ⟨Nat.le_of_ble_eq_true rfl, Nat.le_of_ble_eq_true rfl⟩ (Nat.le_of_ble_eq_true rfl) dX11_ring_16 (fun v16 e9 => c_X7_ringLength _ _ v16 e9) h (fun v16 h => ?_) rfl
    refine xx_goto C 24 dX11_ring_19 (by decide) ?_
    exact xx_iretp C E rfl ⟨Nat.le_of_ble_eq_true rfl, Nat.le_of_ble_eq_true rfl⟩ dX11_ring_24 h

def f_X11_wouldFree (μ : mu_T)  : Option Int :=
  bd_ (f_X7_leftOver μ) (fun v4 => some v4)
set_option maxHeartbeats 4000000 in
set_option maxRecDepth 100000 in
theorem c_X11_wouldFree {G : gp_} {ad : Nat → Nat} (μ : mu_T)  (a : Int) (h : f_X11_wouldFree μ  = some a) : mi_ yX11_wouldFree cX11_wouldFree 1 (some .int) ({ frames := 6, cells := 0, slots := 0, locals := 135 } : Room) G 151 ad (ceX G ad) [.ref (ad 132)] μ a μ := by
  refine mi_in (own := "UrnHeap") (lv := [(0, .ref (ad 132))]) (by decide) rfl rfl (Nat.le_of_ble_eq_true rfl) (fun X C E => ?_)
  unfold f_X11_wouldFree at h
  refine xx_aload_n C 1 rfl 0 dX11_wouldFree_0 rfl rfl ?_
  refine xx_getr (fi := 4) C 4 rfl (by decide) (ceX_132 _ _ _) rfl in_X11 (by decide) rfl rfl w_400 dX11_wouldFree_1 ?_
  refine xx_cVip (As := []) (st := []) (o := 136) C 7 rfl (by decide) (ceX_136 _ _ _) rfl rfl ca_X7_leftOver cv_X7_leftOver w_747 rfl ⟨Nat.le_of_ble_eq_true rfl, Nat.le_of_ble_eq_true rfl⟩ ⟨Nat.le_of_ble_eq_true rfl, Nat.le_of_ble_eq_true rfl⟩ (Nat.le_of_ble_eq_true rfl) dX11_wouldFree_4 (fun v4 e9 => c_X7_leftOver _ v4 e9) h (fun v4 h => ?_) rfl
  exact xx_iretp C E rfl ⟨Nat.le_of_ble_eq_true rfl, Nat.le_of_ble_eq_true rfl⟩ dX11_wouldFree_7 h

def f_X11_ranked (μ : mu_T) (a1 : Int) : Option (Int × mu_T) :=
  bp_ (f_X7_urnAtRank μ a1) (fun v5 μ5 => some (v5, μ5))
set_option maxHeartbeats 4000000 in
set_option maxRecDepth 100000 in
theorem c_X11_ranked {G : gp_} {ad : Nat → Nat} (μ : mu_T) (a1 : Int) (a : Int) (μr : mu_T) (h : f_X11_ranked μ a1 = some (a, μr)) : mi_ yX11_ranked cX11_ranked 2 (some .int) ({ frames := 5, cells := 0, slots := 0, locals := 110 } : Room) G 151 ad (ceX G ad) [.ref (ad 132), .int (iI a1)] μ a μr := by
  refine mi_in (own := "UrnHeap") (lv := [(0, .ref (ad 132)), (1, .int (iI a1))]) (by decide) rfl rfl (Nat.le_of_ble_eq_true rfl) (fun X C E => ?_)
  unfold f_X11_ranked at h
  refine xx_aload_n C 1 rfl 0 dX11_ranked_0 rfl rfl ?_
  refine xx_getr (fi := 4) C 4 rfl (by decide) (ceX_132 _ _ _) rfl in_X11 (by decide) rfl rfl w_400 dX11_ranked_1 ?_
  refine xx_iload_n C 5 rfl 1 dX11_ranked_4 rfl rfl ?_
  refine xx_cVi (As := [.int (iI a1)]) (st := []) (o := 136) C 8 rfl (by decide) (ceX_136 _ _ _) rfl rfl ca_X7_urnAtRank cv_X7_urnAtRank w_755 rfl ⟨Nat.le_of_ble_eq_true rfl, Nat.le_of_ble_eq_true rfl⟩ ⟨Nat.le_of_ble_eq_true rfl, Nat.le_of_ble_eq_true rfl⟩ (Nat.le_of_ble_eq_true rfl) dX11_ranked_5 (fun v5 μ5 e9 => c_X7_urnAtRank _ _ v5 μ5 e9) h (fun v5 μ5 h => ?_) rfl
  exact xx_iret C E rfl ⟨Nat.le_of_ble_eq_true rfl, Nat.le_of_ble_eq_true rfl⟩ dX11_ranked_8 h

def f_X11_reason (μ : mu_T) (a1 : Int) : Option Int :=
  eq_ a1 0
      (nm_ (μ 133 0) (fun v18 => some v18))
      (nm_ (μ 133 1) (fun v8 => some v8))
set_option maxHeartbeats 4000000 in
set_option maxRecDepth 100000 in
theorem c_X11_reason {G : gp_} {ad : Nat → Nat} (μ : mu_T) (a1 : Int) (a : Int) (h : f_X11_reason μ a1 = some a) : mi_ yX11_reason cX11_reason 2 (some .int) ({ frames := 0, cells := 0, slots := 0, locals := 0 } : Room) G 151 ad (ceX G ad) [.ref (ad 132), .int (iI a1)] μ a μ := by
  refine mi_in (own := "UrnHeap") (lv := [(0, .ref (ad 132)), (1, .int (iI a1))]) (by decide) rfl rfl (Nat.le_of_ble_eq_true rfl) (fun X C E => ?_)
  unfold f_X11_reason at h
  refine xx_iload_n C 1 rfl 1 dX11_reason_0 rfl rfl ?_
  refine xx_if_eq (tgt := 14) C 4 rfl dX11_reason_1 (by decide) h (fun h => ?_) (fun h => ?_)
  · refine xx_aload_n C 15 rfl 0 dX11_reason_14 rfl rfl ?_
    refine xx_getr (fi := 1) C 18 rfl (by decide) (ceX_132 _ _ _) rfl in_X11 (by decide) rfl rfl w_397 dX11_reason_15 ?_
    refine xx_geti (fi := 0) (j := 0) C 21 rfl (by decide) (ceX_133 _ _ _) rfl in_X8 (by decide) rfl rfl w_238 dX11_reason_18 h (fun v18 h => ?_)
    exact xx_iretp C E rfl ⟨Nat.le_of_ble_eq_true rfl, Nat.le_of_ble_eq_true rfl⟩ dX11_reason_21 h
  · refine xx_aload_n C 5 rfl 0 dX11_reason_4 rfl rfl ?_
    refine xx_getr (fi := 1) C 8 rfl (by decide) (ceX_132 _ _ _) rfl in_X11 (by decide) rfl rfl w_397 dX11_reason_5 ?_
    refine xx_geti (fi := 1) (j := 1) C 11 rfl (by decide) (ceX_133 _ _ _) rfl in_X8 (by decide) rfl rfl w_240 dX11_reason_8 h (fun v8 h => ?_)
    refine xx_goto C 21 dX11_reason_11 (by decide) ?_
    exact xx_iretp C E rfl ⟨Nat.le_of_ble_eq_true rfl, Nat.le_of_ble_eq_true rfl⟩ dX11_reason_21 h

def f_X11_isBalanced (μ : mu_T)  : Option Int :=
  bd_ (f_X2_isSound μ) (fun v4 => eq_ v4 0
      (some 0)
      (some 1))
set_option maxHeartbeats 4000000 in
set_option maxRecDepth 100000 in
theorem c_X11_isBalanced {G : gp_} {ad : Nat → Nat} (μ : mu_T)  (a : Int) (h : f_X11_isBalanced μ  = some a) : mi_ yX11_isBalanced cX11_isBalanced 1 (some .int) ({ frames := 3, cells := 0, slots := 0, locals := 66 } : Room) G 151 ad (ceX G ad) [.ref (ad 132)] μ a μ := by
  refine mi_in (own := "UrnHeap") (lv := [(0, .ref (ad 132))]) (by decide) rfl rfl (Nat.le_of_ble_eq_true rfl) (fun X C E => ?_)
  unfold f_X11_isBalanced at h
  refine xx_aload_n C 1 rfl 0 dX11_isBalanced_0 rfl rfl ?_
  refine xx_getr (fi := 0) C 4 rfl (by decide) (ceX_132 _ _ _) rfl in_X11 (by decide) rfl rfl w_396 dX11_isBalanced_1 ?_
  refine xx_cVip (As := []) (st := []) (o := 0) C 7 rfl (by decide) (ceX_0 _ _ _) rfl rfl ca_X2_isSound cv_X2_isSound w_1100 rfl ⟨Nat.le_of_ble_eq_true rfl, Nat.le_of_ble_eq_true rfl⟩ ⟨Nat.le_of_ble_eq_true rfl, Nat.le_of_ble_eq_true rfl⟩ (Nat.le_of_ble_eq_true rfl) dX11_isBalanced_4 (fun v4 e9 => c_X2_isSound _ v4 e9) h (fun v4 h => ?_) rfl
  refine xx_if_eq (tgt := 14) C 10 rfl dX11_isBalanced_7 (by decide) h (fun h => ?_) (fun h => ?_)
  · refine xx_iconst C 15 rfl dX11_isBalanced_14 ?_
    exact xx_iretp C E rfl ⟨Nat.le_of_ble_eq_true rfl, Nat.le_of_ble_eq_true rfl⟩ dX11_isBalanced_15 h
  · refine xx_iconst C 11 rfl dX11_isBalanced_10 ?_
    refine xx_goto C 15 dX11_isBalanced_11 (by decide) ?_
    exact xx_iretp C E rfl ⟨Nat.le_of_ble_eq_true rfl, Nat.le_of_ble_eq_true rfl⟩ dX11_isBalanced_15 h

def f_X11_meanHeld (μ : mu_T)  : Option UInt64 :=
  bd_ (f_X2_urns μ) (fun v4 => eq_ v4 0
      (some (FP.dconst0))
      (bd_ (f_X2_holdersOfAll μ) (fun v20 => dd_ (FP.i2d (iI v20)) (FP.i2d (iI v4)) (fun v26 => some v26))))
set_option maxHeartbeats 4000000 in
set_option maxRecDepth 100000 in
theorem c_X11_meanHeld {G : gp_} {ad : Nat → Nat} (μ : mu_T)  (a : UInt64) (h : f_X11_meanHeld μ  = some a) : md_ yX11_meanHeld cX11_meanHeld 2 (some .double) ({ frames := 2, cells := 0, slots := 0, locals := 45 } : Room) G 151 ad (ceX G ad) [.ref (ad 132)] μ a μ := by
  refine md_in (own := "UrnHeap") (lv := [(0, .ref (ad 132))]) (by decide) rfl rfl (Nat.le_of_ble_eq_true rfl) (fun X C E => ?_)
  unfold f_X11_meanHeld at h
  refine xx_aload_n C 1 rfl 0 dX11_meanHeld_0 rfl rfl ?_
  refine xx_getr (fi := 0) C 4 rfl (by decide) (ceX_132 _ _ _) rfl in_X11 (by decide) rfl rfl w_396 dX11_meanHeld_1 ?_
  refine xx_cVip (As := []) (st := []) (o := 0) C 7 rfl (by decide) (ceX_0 _ _ _) rfl rfl ca_X2_urns cv_X2_urns w_1079 rfl ⟨Nat.le_of_ble_eq_true rfl, Nat.le_of_ble_eq_true rfl⟩ ⟨Nat.le_of_ble_eq_true rfl, Nat.le_of_ble_eq_true rfl⟩ (Nat.le_of_ble_eq_true rfl) dX11_meanHeld_4 (fun v4 e9 => c_X2_urns _ v4 e9) h (fun v4 h => ?_) rfl
  refine xx_istore_n (lv1 := [(1, .int (iI v4)), (0, .ref (ad 132))]) C 8 rfl (by decide) dX11_meanHeld_7 rfl rfl ?_
  refine xx_iload_n C 9 rfl 0 dX11_meanHeld_8 rfl rfl ?_
  refine xx_if_ne (tgt := 16) C 12 rfl dX11_meanHeld_9 (by decide) h (fun h => ?_) (fun h => ?_)
  · refine xx_aload_n C 17 rfl 1 dX11_meanHeld_16 rfl rfl ?_
    refine xx_getr (fi := 0) C 20 rfl (by decide) (ceX_132 _ _ _) rfl in_X11 (by decide) rfl rfl w_396 dX11_meanHeld_17 ?_
    refine xx_cVip (As := []) (st := []) (o := 0) C 23 rfl (by decide) (ceX_0 _ _ _) rfl rfl ca_X2_holdersOfAll cv_X2_holdersOfAll w_1117 rfl ⟨Nat.le_of_ble_eq_true rfl, Nat.le_of_ble_eq_true rfl⟩ ⟨Nat.le_of_ble_eq_true rfl, Nat.le_of_ble_eq_true rfl⟩ (Nat.le_of_ble_eq_true rfl) dX11_meanHeld_20 (fun v20 e9 => c_X2_holdersOfAll _ v20 e9) h (fun v20 h => ?_) rfl
    refine xx_i2d C 24 rfl dX11_meanHeld_23 ?_
    refine xx_iload_n C 25 rfl 0 dX11_meanHeld_24 rfl rfl ?_
    refine xx_i2d C 26 rfl dX11_meanHeld_25 ?_
    refine xx_ddiv C 27 rfl dX11_meanHeld_26 h (fun v26 h => ?_)
    exact xx_dret C E rfl ⟨Nat.le_of_ble_eq_true rfl, Nat.le_of_ble_eq_true rfl⟩ dX11_meanHeld_27 h
  · refine xx_dconst0 C 13 rfl dX11_meanHeld_12 ?_
    refine xx_goto C 27 dX11_meanHeld_13 (by decide) ?_
    exact xx_dret C E rfl ⟨Nat.le_of_ble_eq_true rfl, Nat.le_of_ble_eq_true rfl⟩ dX11_meanHeld_27 h

def f_X11_liveShare (μ : mu_T)  : Option UInt32 :=
  bd_ (f_X2_urns μ) (fun v4 => eq_ v4 0
      (some (FP.fconst0))
      (bd_ (f_X7_reach μ) (fun v20 => bd_ (f_J6_bitCount_0f7a4 μ v20) (fun v23 => fd_ (FP.i2f (iI v23)) (FP.i2f (iI v4)) (fun v29 => some v29)))))
set_option maxHeartbeats 4000000 in
set_option maxRecDepth 100000 in
theorem c_X11_liveShare {G : gp_} {ad : Nat → Nat} (μ : mu_T)  (a : UInt32) (h : f_X11_liveShare μ  = some a) : mf_ yX11_liveShare cX11_liveShare 2 (some .float) ({ frames := 6, cells := 0, slots := 0, locals := 132 } : Room) G 151 ad (ceX G ad) [.ref (ad 132)] μ a μ := by
  refine mf_in (own := "UrnHeap") (lv := [(0, .ref (ad 132))]) (by decide) rfl rfl (Nat.le_of_ble_eq_true rfl) (fun X C E => ?_)
  unfold f_X11_liveShare at h
  refine xx_aload_n C 1 rfl 0 dX11_liveShare_0 rfl rfl ?_
  refine xx_getr (fi := 0) C 4 rfl (by decide) (ceX_132 _ _ _) rfl in_X11 (by decide) rfl rfl w_396 dX11_liveShare_1 ?_
  refine xx_cVip (As := []) (st := []) (o := 0) C 7 rfl (by decide) (ceX_0 _ _ _) rfl rfl ca_X2_urns cv_X2_urns w_1079 rfl ⟨Nat.le_of_ble_eq_true rfl, Nat.le_of_ble_eq_true rfl⟩ ⟨Nat.le_of_ble_eq_true rfl, Nat.le_of_ble_eq_true rfl⟩ (Nat.le_of_ble_eq_true rfl) dX11_liveShare_4 (fun v4 e9 => c_X2_urns _ v4 e9) h (fun v4 h => ?_) rfl
  refine xx_istore_n (lv1 := [(1, .int (iI v4)), (0, .ref (ad 132))]) C 8 rfl (by decide) dX11_liveShare_7 rfl rfl ?_
  refine xx_iload_n C 9 rfl 0 dX11_liveShare_8 rfl rfl ?_
  refine xx_if_ne (tgt := 16) C 12 rfl dX11_liveShare_9 (by decide) h (fun h => ?_) (fun h => ?_)
  · refine xx_aload_n C 17 rfl 1 dX11_liveShare_16 rfl rfl ?_
    refine xx_getr (fi := 4) C 20 rfl (by decide) (ceX_132 _ _ _) rfl in_X11 (by decide) rfl rfl w_400 dX11_liveShare_17 ?_
    refine xx_cVip (As := []) (st := []) (o := 136) C 23 rfl (by decide) (ceX_136 _ _ _) rfl rfl ca_X7_reach cv_X7_reach w_671 rfl ⟨Nat.le_of_ble_eq_true rfl, Nat.le_of_ble_eq_true rfl⟩ ⟨Nat.le_of_ble_eq_true rfl, Nat.le_of_ble_eq_true rfl⟩ (Nat.le_of_ble_eq_true rfl) dX11_liveShare_20 (fun v20 e9 => c_X7_reach _ v20 e9) h (fun v20 h => ?_) rfl
    refine xx_cSip (As := [.int (iI v20)]) (st := []) C 26 rfl  ca_J6_bitCount_0f7a4 cs_J6_bitCount_0f7a4 w_1126 rfl ⟨Nat.le_of_ble_eq_true rfl, Nat.le_of_ble_eq_true rfl⟩ ⟨Nat.le_of_ble_eq_true rfl, Nat.le_of_ble_eq_true rfl⟩ (Nat.le_of_ble_eq_true rfl) dX11_liveShare_23 (fun v23 e9 => c_J6_bitCount_0f7a4 _ _ v23 e9) h (fun v23 h => ?_) rfl
    refine xx_i2f C 27 rfl dX11_liveShare_26 ?_
    refine xx_iload_n C 28 rfl 0 dX11_liveShare_27 rfl rfl ?_
    refine xx_i2f C 29 rfl dX11_liveShare_28 ?_
    refine xx_fdiv C 30 rfl dX11_liveShare_29 h (fun v29 h => ?_)
    exact xx_fret C E rfl ⟨Nat.le_of_ble_eq_true rfl, Nat.le_of_ble_eq_true rfl⟩ dX11_liveShare_30 h
  · refine xx_fconst0 C 13 rfl dX11_liveShare_12 ?_
    refine xx_goto C 30 dX11_liveShare_13 (by decide) ?_
    exact xx_fret C E rfl ⟨Nat.le_of_ble_eq_true rfl, Nat.le_of_ble_eq_true rfl⟩ dX11_liveShare_30 h

def f_X11_undo (μ : mu_T)  : Option (Int × mu_T) :=
  bp_ (f_X3_undoLatest μ) (fun v4 μ4 => some (v4, μ4))
set_option maxHeartbeats 4000000 in
set_option maxRecDepth 100000 in
theorem c_X11_undo {G : gp_} {ad : Nat → Nat} (μ : mu_T)  (a : Int) (μr : mu_T) (h : f_X11_undo μ  = some (a, μr)) : mi_ yX11_undo cX11_undo 1 (some .int) ({ frames := 5, cells := 0, slots := 0, locals := 101 } : Room) G 151 ad (ceX G ad) [.ref (ad 132)] μ a μr := by
  refine mi_in (own := "UrnHeap") (lv := [(0, .ref (ad 132))]) (by decide) rfl rfl (Nat.le_of_ble_eq_true rfl) (fun X C E => ?_)
  unfold f_X11_undo at h
  refine xx_aload_n C 1 rfl 0 dX11_undo_0 rfl rfl ?_
  refine xx_getr (fi := 5) C 4 rfl (by decide) (ceX_132 _ _ _) rfl in_X11 (by decide) rfl rfl w_401 dX11_undo_1 ?_
  refine xx_cVi (As := []) (st := []) (o := 138) C 7 rfl (by decide) (ceX_138 _ _ _) rfl rfl ca_X3_undoLatest cv_X3_undoLatest w_1136 rfl ⟨Nat.le_of_ble_eq_true rfl, Nat.le_of_ble_eq_true rfl⟩ ⟨Nat.le_of_ble_eq_true rfl, Nat.le_of_ble_eq_true rfl⟩ (Nat.le_of_ble_eq_true rfl) dX11_undo_4 (fun v4 μ4 e9 => c_X3_undoLatest _ v4 μ4 e9) h (fun v4 μ4 h => ?_) rfl
  exact xx_iret C E rfl ⟨Nat.le_of_ble_eq_true rfl, Nat.le_of_ble_eq_true rfl⟩ dX11_undo_7 h

def f_X11_save (μ : mu_T)  : Option (Int × mu_T) :=
  bp_ (f_X3_saveNow μ) (fun v4 μ4 => some (v4, μ4))
set_option maxHeartbeats 4000000 in
set_option maxRecDepth 100000 in
theorem c_X11_save {G : gp_} {ad : Nat → Nat} (μ : mu_T)  (a : Int) (μr : mu_T) (h : f_X11_save μ  = some (a, μr)) : mi_ yX11_save cX11_save 1 (some .int) ({ frames := 4, cells := 0, slots := 0, locals := 80 } : Room) G 151 ad (ceX G ad) [.ref (ad 132)] μ a μr := by
  refine mi_in (own := "UrnHeap") (lv := [(0, .ref (ad 132))]) (by decide) rfl rfl (Nat.le_of_ble_eq_true rfl) (fun X C E => ?_)
  unfold f_X11_save at h
  refine xx_aload_n C 1 rfl 0 dX11_save_0 rfl rfl ?_
  refine xx_getr (fi := 5) C 4 rfl (by decide) (ceX_132 _ _ _) rfl in_X11 (by decide) rfl rfl w_401 dX11_save_1 ?_
  refine xx_cVi (As := []) (st := []) (o := 138) C 7 rfl (by decide) (ceX_138 _ _ _) rfl rfl ca_X3_saveNow cv_X3_saveNow w_1145 rfl ⟨Nat.le_of_ble_eq_true rfl, Nat.le_of_ble_eq_true rfl⟩ ⟨Nat.le_of_ble_eq_true rfl, Nat.le_of_ble_eq_true rfl⟩ (Nat.le_of_ble_eq_true rfl) dX11_save_4 (fun v4 μ4 e9 => c_X3_saveNow _ v4 μ4 e9) h (fun v4 μ4 h => ?_) rfl
  exact xx_iret C E rfl ⟨Nat.le_of_ble_eq_true rfl, Nat.le_of_ble_eq_true rfl⟩ dX11_save_7 h

def f_X11_restore (μ : mu_T)  : Option (Int × mu_T) :=
  bp_ (f_X3_restoreSaved μ) (fun v4 μ4 => some (v4, μ4))
set_option maxHeartbeats 4000000 in
set_option maxRecDepth 100000 in
theorem c_X11_restore {G : gp_} {ad : Nat → Nat} (μ : mu_T)  (a : Int) (μr : mu_T) (h : f_X11_restore μ  = some (a, μr)) : mi_ yX11_restore cX11_restore 1 (some .int) ({ frames := 4, cells := 0, slots := 0, locals := 80 } : Room) G 151 ad (ceX G ad) [.ref (ad 132)] μ a μr := by
  refine mi_in (own := "UrnHeap") (lv := [(0, .ref (ad 132))]) (by decide) rfl rfl (Nat.le_of_ble_eq_true rfl) (fun X C E => ?_)
  unfold f_X11_restore at h
  refine xx_aload_n C 1 rfl 0 dX11_restore_0 rfl rfl ?_
  refine xx_getr (fi := 5) C 4 rfl (by decide) (ceX_132 _ _ _) rfl in_X11 (by decide) rfl rfl w_401 dX11_restore_1 ?_
  refine xx_cVi (As := []) (st := []) (o := 138) C 7 rfl (by decide) (ceX_138 _ _ _) rfl rfl ca_X3_restoreSaved cv_X3_restoreSaved w_1154 rfl ⟨Nat.le_of_ble_eq_true rfl, Nat.le_of_ble_eq_true rfl⟩ ⟨Nat.le_of_ble_eq_true rfl, Nat.le_of_ble_eq_true rfl⟩ (Nat.le_of_ble_eq_true rfl) dX11_restore_4 (fun v4 μ4 e9 => c_X3_restoreSaved _ v4 μ4 e9) h (fun v4 μ4 h => ?_) rfl
  exact xx_iret C E rfl ⟨Nat.le_of_ble_eq_true rfl, Nat.le_of_ble_eq_true rfl⟩ dX11_restore_7 h
end
