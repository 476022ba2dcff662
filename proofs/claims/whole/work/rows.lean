section
-- ===== PART A: goes FIRST, ahead of the names: the tables' words, and 'selects' of the private methods out of them =====
/-- a private method of a class that the tables say can be made, by its rows of tables_1 -/
def lw_okq (q : MethodName × Nat) : Prop := (q.1.cls ≠ "java/lang/invoke/MethodHandle" ∧ q.1.cls ≠ "java/lang/invoke/VarHandle") ∧ Cond.instantiable q.1.cls q.2 ∈ tables_1 ∧ Cond.privateMethod q.1 ∈ tables_1 ∧ Cond.instanceMethod q.1 ∈ tables_1
theorem lw_p0 : lw_okq (⟨"UrnHeap$Hands", "colourOfNew", "(I)I"⟩, 2) := ⟨⟨by decide +kernel, by decide +kernel⟩, List.mem_of_getElem? (i := 172) (by decide +kernel), List.mem_of_getElem? (i := 375) (by decide +kernel), List.mem_of_getElem? (i := 376) (by decide +kernel)⟩
theorem lw_p1 : lw_okq (⟨"UrnHeap$Sexton", "markRoots", "()V"⟩, 2) := ⟨⟨by decide +kernel, by decide +kernel⟩, List.mem_of_getElem? (i := 185) (by decide +kernel), List.mem_of_getElem? (i := 509) (by decide +kernel), List.mem_of_getElem? (i := 510) (by decide +kernel)⟩
theorem lw_p2 : lw_okq (⟨"UrnHeap$Sexton", "doPartsUntilOver", "(I)I"⟩, 2) := ⟨⟨by decide +kernel, by decide +kernel⟩, List.mem_of_getElem? (i := 185) (by decide +kernel), List.mem_of_getElem? (i := 526) (by decide +kernel), List.mem_of_getElem? (i := 527) (by decide +kernel)⟩
theorem lw_p3 : lw_okq (⟨"UrnHeap$Sexton", "sweepNext", "()V"⟩, 2) := ⟨⟨by decide +kernel, by decide +kernel⟩, List.mem_of_getElem? (i := 185) (by decide +kernel), List.mem_of_getElem? (i := 530) (by decide +kernel), List.mem_of_getElem? (i := 531) (by decide +kernel)⟩
theorem lw_p4 : lw_okq (⟨"UrnHeap$Sexton", "blackenFirst", "()V"⟩, 2) := ⟨⟨by decide +kernel, by decide +kernel⟩, List.mem_of_getElem? (i := 185) (by decide +kernel), List.mem_of_getElem? (i := 541) (by decide +kernel), List.mem_of_getElem? (i := 542) (by decide +kernel)⟩
theorem lw_p5 : lw_okq (⟨"UrnHeap$Sexton", "makeRitesDue", "()Z"⟩, 2) := ⟨⟨by decide +kernel, by decide +kernel⟩, List.mem_of_getElem? (i := 185) (by decide +kernel), List.mem_of_getElem? (i := 551) (by decide +kernel), List.mem_of_getElem? (i := 552) (by decide +kernel)⟩
theorem lw_p6 : lw_okq (⟨"UrnHeap$Sexton", "beginSweep", "()V"⟩, 2) := ⟨⟨by decide +kernel, by decide +kernel⟩, List.mem_of_getElem? (i := 185) (by decide +kernel), List.mem_of_getElem? (i := 556) (by decide +kernel), List.mem_of_getElem? (i := 557) (by decide +kernel)⟩
theorem lw_p7 : lw_okq (⟨"UrnHeap$Paths", "rootsByRite", "(I)I"⟩, 2) := ⟨⟨by decide +kernel, by decide +kernel⟩, List.mem_of_getElem? (i := 198) (by decide +kernel), List.mem_of_getElem? (i := 605) (by decide +kernel), List.mem_of_getElem? (i := 606) (by decide +kernel)⟩
theorem lw_p8 : lw_okq (⟨"UrnHeap$Paths", "reachFrom", "(I)I"⟩, 2) := ⟨⟨by decide +kernel, by decide +kernel⟩, List.mem_of_getElem? (i := 198) (by decide +kernel), List.mem_of_getElem? (i := 614) (by decide +kernel), List.mem_of_getElem? (i := 615) (by decide +kernel)⟩
theorem lw_p9 : lw_okq (⟨"UrnHeap$Paths", "targetsOfAll", "(I)I"⟩, 2) := ⟨⟨by decide +kernel, by decide +kernel⟩, List.mem_of_getElem? (i := 198) (by decide +kernel), List.mem_of_getElem? (i := 618) (by decide +kernel), List.mem_of_getElem? (i := 619) (by decide +kernel)⟩
theorem lw_p10 : lw_okq (⟨"UrnHeap$Paths", "targets", "(I)I"⟩, 2) := ⟨⟨by decide +kernel, by decide +kernel⟩, List.mem_of_getElem? (i := 198) (by decide +kernel), List.mem_of_getElem? (i := 625) (by decide +kernel), List.mem_of_getElem? (i := 626) (by decide +kernel)⟩
theorem lw_p11 : lw_okq (⟨"UrnHeap$Paths", "isHeldBySome", "(II)Z"⟩, 2) := ⟨⟨by decide +kernel, by decide +kernel⟩, List.mem_of_getElem? (i := 198) (by decide +kernel), List.mem_of_getElem? (i := 638) (by decide +kernel), List.mem_of_getElem? (i := 639) (by decide +kernel)⟩
theorem lw_p12 : lw_okq (⟨"UrnHeap$Paths", "weighAll", "()V"⟩, 2) := ⟨⟨by decide +kernel, by decide +kernel⟩, List.mem_of_getElem? (i := 198) (by decide +kernel), List.mem_of_getElem? (i := 685) (by decide +kernel), List.mem_of_getElem? (i := 686) (by decide +kernel)⟩
theorem lw_p13 : lw_okq (⟨"UrnHeap$Paths", "heavierThan", "(I)I"⟩, 2) := ⟨⟨by decide +kernel, by decide +kernel⟩, List.mem_of_getElem? (i := 198) (by decide +kernel), List.mem_of_getElem? (i := 691) (by decide +kernel), List.mem_of_getElem? (i := 692) (by decide +kernel)⟩
theorem lw_p14 : lw_okq (⟨"UrnHeap$Orders", "readOrder", "(I)I"⟩, 8) := ⟨⟨by decide +kernel, by decide +kernel⟩, List.mem_of_getElem? (i := 240) (by decide +kernel), List.mem_of_getElem? (i := 809) (by decide +kernel), List.mem_of_getElem? (i := 810) (by decide +kernel)⟩
theorem lw_p15 : lw_okq (⟨"UrnHeap$Orders", "fits", "(Ljava/lang/String;)Z"⟩, 8) := ⟨⟨by decide +kernel, by decide +kernel⟩, List.mem_of_getElem? (i := 240) (by decide +kernel), List.mem_of_getElem? (i := 815) (by decide +kernel), List.mem_of_getElem? (i := 816) (by decide +kernel)⟩
def lw_privs_1 : List (MethodName × Nat) := [(⟨"UrnHeap$Hands", "colourOfNew", "(I)I"⟩, 2), (⟨"UrnHeap$Sexton", "markRoots", "()V"⟩, 2), (⟨"UrnHeap$Sexton", "doPartsUntilOver", "(I)I"⟩, 2), (⟨"UrnHeap$Sexton", "sweepNext", "()V"⟩, 2), (⟨"UrnHeap$Sexton", "blackenFirst", "()V"⟩, 2), (⟨"UrnHeap$Sexton", "makeRitesDue", "()Z"⟩, 2), (⟨"UrnHeap$Sexton", "beginSweep", "()V"⟩, 2), (⟨"UrnHeap$Paths", "rootsByRite", "(I)I"⟩, 2), (⟨"UrnHeap$Paths", "reachFrom", "(I)I"⟩, 2), (⟨"UrnHeap$Paths", "targetsOfAll", "(I)I"⟩, 2), (⟨"UrnHeap$Paths", "targets", "(I)I"⟩, 2), (⟨"UrnHeap$Paths", "isHeldBySome", "(II)Z"⟩, 2), (⟨"UrnHeap$Paths", "weighAll", "()V"⟩, 2), (⟨"UrnHeap$Paths", "heavierThan", "(I)I"⟩, 2), (⟨"UrnHeap$Orders", "readOrder", "(I)I"⟩, 8), (⟨"UrnHeap$Orders", "fits", "(Ljava/lang/String;)Z"⟩, 8)]
theorem lw_r1 : ∀ q ∈ lw_privs_1, lw_okq q := List.forall_mem_cons.mpr ⟨lw_p0, List.forall_mem_cons.mpr ⟨lw_p1, List.forall_mem_cons.mpr ⟨lw_p2, List.forall_mem_cons.mpr ⟨lw_p3, List.forall_mem_cons.mpr ⟨lw_p4, List.forall_mem_cons.mpr ⟨lw_p5, List.forall_mem_cons.mpr ⟨lw_p6, List.forall_mem_cons.mpr ⟨lw_p7, List.forall_mem_cons.mpr ⟨lw_p8, List.forall_mem_cons.mpr ⟨lw_p9, List.forall_mem_cons.mpr ⟨lw_p10, List.forall_mem_cons.mpr ⟨lw_p11, List.forall_mem_cons.mpr ⟨lw_p12, List.forall_mem_cons.mpr ⟨lw_p13, List.forall_mem_cons.mpr ⟨lw_p14, List.forall_mem_cons.mpr ⟨lw_p15, fun _ h => absurd h List.not_mem_nil⟩⟩⟩⟩⟩⟩⟩⟩⟩⟩⟩⟩⟩⟩⟩⟩
theorem lw_p16 : lw_okq (⟨"UrnHeap$Orders", "readSign", "(C)I"⟩, 8) := ⟨⟨by decide +kernel, by decide +kernel⟩, List.mem_of_getElem? (i := 240) (by decide +kernel), List.mem_of_getElem? (i := 846) (by decide +kernel), List.mem_of_getElem? (i := 847) (by decide +kernel)⟩
theorem lw_p17 : lw_okq (⟨"UrnHeap$Orders", "valueAt", "(IC)I"⟩, 8) := ⟨⟨by decide +kernel, by decide +kernel⟩, List.mem_of_getElem? (i := 240) (by decide +kernel), List.mem_of_getElem? (i := 850) (by decide +kernel), List.mem_of_getElem? (i := 851) (by decide +kernel)⟩
theorem lw_p18 : lw_okq (⟨"UrnHeap$Orders", "isOrderEnd", "()Z"⟩, 8) := ⟨⟨by decide +kernel, by decide +kernel⟩, List.mem_of_getElem? (i := 240) (by decide +kernel), List.mem_of_getElem? (i := 867) (by decide +kernel), List.mem_of_getElem? (i := 868) (by decide +kernel)⟩
theorem lw_p19 : lw_okq (⟨"UrnHeap$Orders", "keep", "(LUrnHeap$Kind;)V"⟩, 8) := ⟨⟨by decide +kernel, by decide +kernel⟩, List.mem_of_getElem? (i := 240) (by decide +kernel), List.mem_of_getElem? (i := 871) (by decide +kernel), List.mem_of_getElem? (i := 872) (by decide +kernel)⟩
theorem lw_p20 : lw_okq (⟨"UrnHeap", "carryOut", "(I)I"⟩, 8) := ⟨⟨by decide +kernel, by decide +kernel⟩, List.mem_of_getElem? (i := 28) (by decide +kernel), List.mem_of_getElem? (i := 900) (by decide +kernel), List.mem_of_getElem? (i := 901) (by decide +kernel)⟩
theorem lw_p21 : lw_okq (⟨"UrnHeap$Line", "writeRite", "(LUrnHeap$Heap;I)V"⟩, 1) := ⟨⟨by decide +kernel, by decide +kernel⟩, List.mem_of_getElem? (i := 310) (by decide +kernel), List.mem_of_getElem? (i := 965) (by decide +kernel), List.mem_of_getElem? (i := 966) (by decide +kernel)⟩
theorem lw_p22 : lw_okq (⟨"UrnHeap$Line", "writeTarget", "(I)V"⟩, 1) := ⟨⟨by decide +kernel, by decide +kernel⟩, List.mem_of_getElem? (i := 310) (by decide +kernel), List.mem_of_getElem? (i := 972) (by decide +kernel), List.mem_of_getElem? (i := 973) (by decide +kernel)⟩
theorem lw_p23 : lw_okq (⟨"UrnHeap$Heap", "areUrns", "([I)Z"⟩, 17) := ⟨⟨by decide +kernel, by decide +kernel⟩, List.mem_of_getElem? (i := 36) (by decide +kernel), List.mem_of_getElem? (i := 1031) (by decide +kernel), List.mem_of_getElem? (i := 1032) (by decide +kernel)⟩
theorem lw_p24 : lw_okq (⟨"UrnHeap$Heap", "hasBlackToWhite", "()Z"⟩, 17) := ⟨⟨by decide +kernel, by decide +kernel⟩, List.mem_of_getElem? (i := 36) (by decide +kernel), List.mem_of_getElem? (i := 1035) (by decide +kernel), List.mem_of_getElem? (i := 1036) (by decide +kernel)⟩
theorem lw_p25 : lw_okq (⟨"UrnHeapModel", "empties", "(I)V"⟩, 20) := ⟨⟨by decide +kernel, by decide +kernel⟩, List.mem_of_getElem? (i := 1084) (by decide +kernel), List.mem_of_getElem? (i := 1090) (by decide +kernel), List.mem_of_getElem? (i := 1091) (by decide +kernel)⟩
theorem lw_p26 : lw_okq (⟨"UrnHeapModel", "remembers", "()V"⟩, 20) := ⟨⟨by decide +kernel, by decide +kernel⟩, List.mem_of_getElem? (i := 1084) (by decide +kernel), List.mem_of_getElem? (i := 1162) (by decide +kernel), List.mem_of_getElem? (i := 1163) (by decide +kernel)⟩
theorem lw_p27 : lw_okq (⟨"UrnHeapModel", "makes", "(Z)I"⟩, 20) := ⟨⟨by decide +kernel, by decide +kernel⟩, List.mem_of_getElem? (i := 1084) (by decide +kernel), List.mem_of_getElem? (i := 1166) (by decide +kernel), List.mem_of_getElem? (i := 1167) (by decide +kernel)⟩
theorem lw_p28 : lw_okq (⟨"UrnHeapModel", "refused", "(II)I"⟩, 20) := ⟨⟨by decide +kernel, by decide +kernel⟩, List.mem_of_getElem? (i := 1084) (by decide +kernel), List.mem_of_getElem? (i := 1170) (by decide +kernel), List.mem_of_getElem? (i := 1171) (by decide +kernel)⟩
theorem lw_p29 : lw_okq (⟨"UrnHeapModel", "done", "(I)I"⟩, 20) := ⟨⟨by decide +kernel, by decide +kernel⟩, List.mem_of_getElem? (i := 1084) (by decide +kernel), List.mem_of_getElem? (i := 1174) (by decide +kernel), List.mem_of_getElem? (i := 1175) (by decide +kernel)⟩
theorem lw_p30 : lw_okq (⟨"UrnHeapModel", "ends", "(I)I"⟩, 20) := ⟨⟨by decide +kernel, by decide +kernel⟩, List.mem_of_getElem? (i := 1084) (by decide +kernel), List.mem_of_getElem? (i := 1178) (by decide +kernel), List.mem_of_getElem? (i := 1179) (by decide +kernel)⟩
theorem lw_p31 : lw_okq (⟨"UrnHeapModel", "changed", "(I)I"⟩, 20) := ⟨⟨by decide +kernel, by decide +kernel⟩, List.mem_of_getElem? (i := 1084) (by decide +kernel), List.mem_of_getElem? (i := 1182) (by decide +kernel), List.mem_of_getElem? (i := 1183) (by decide +kernel)⟩
def lw_privs_2 : List (MethodName × Nat) := [(⟨"UrnHeap$Orders", "readSign", "(C)I"⟩, 8), (⟨"UrnHeap$Orders", "valueAt", "(IC)I"⟩, 8), (⟨"UrnHeap$Orders", "isOrderEnd", "()Z"⟩, 8), (⟨"UrnHeap$Orders", "keep", "(LUrnHeap$Kind;)V"⟩, 8), (⟨"UrnHeap", "carryOut", "(I)I"⟩, 8), (⟨"UrnHeap$Line", "writeRite", "(LUrnHeap$Heap;I)V"⟩, 1), (⟨"UrnHeap$Line", "writeTarget", "(I)V"⟩, 1), (⟨"UrnHeap$Heap", "areUrns", "([I)Z"⟩, 17), (⟨"UrnHeap$Heap", "hasBlackToWhite", "()Z"⟩, 17), (⟨"UrnHeapModel", "empties", "(I)V"⟩, 20), (⟨"UrnHeapModel", "remembers", "()V"⟩, 20), (⟨"UrnHeapModel", "makes", "(Z)I"⟩, 20), (⟨"UrnHeapModel", "refused", "(II)I"⟩, 20), (⟨"UrnHeapModel", "done", "(I)I"⟩, 20), (⟨"UrnHeapModel", "ends", "(I)I"⟩, 20), (⟨"UrnHeapModel", "changed", "(I)I"⟩, 20)]
theorem lw_r2 : ∀ q ∈ lw_privs_2, lw_okq q := List.forall_mem_cons.mpr ⟨lw_p16, List.forall_mem_cons.mpr ⟨lw_p17, List.forall_mem_cons.mpr ⟨lw_p18, List.forall_mem_cons.mpr ⟨lw_p19, List.forall_mem_cons.mpr ⟨lw_p20, List.forall_mem_cons.mpr ⟨lw_p21, List.forall_mem_cons.mpr ⟨lw_p22, List.forall_mem_cons.mpr ⟨lw_p23, List.forall_mem_cons.mpr ⟨lw_p24, List.forall_mem_cons.mpr ⟨lw_p25, List.forall_mem_cons.mpr ⟨lw_p26, List.forall_mem_cons.mpr ⟨lw_p27, List.forall_mem_cons.mpr ⟨lw_p28, List.forall_mem_cons.mpr ⟨lw_p29, List.forall_mem_cons.mpr ⟨lw_p30, List.forall_mem_cons.mpr ⟨lw_p31, fun _ h => absurd h List.not_mem_nil⟩⟩⟩⟩⟩⟩⟩⟩⟩⟩⟩⟩⟩⟩⟩⟩
theorem lw_p32 : lw_okq (⟨"UrnHeapModel", "ties", "(III)I"⟩, 20) := ⟨⟨by decide +kernel, by decide +kernel⟩, List.mem_of_getElem? (i := 1084) (by decide +kernel), List.mem_of_getElem? (i := 1190) (by decide +kernel), List.mem_of_getElem? (i := 1191) (by decide +kernel)⟩
theorem lw_p33 : lw_okq (⟨"UrnHeapModel", "isUrn", "(I)Z"⟩, 20) := ⟨⟨by decide +kernel, by decide +kernel⟩, List.mem_of_getElem? (i := 1084) (by decide +kernel), List.mem_of_getElem? (i := 1194) (by decide +kernel), List.mem_of_getElem? (i := 1195) (by decide +kernel)⟩
theorem lw_p34 : lw_okq (⟨"UrnHeapModel", "isDoomed", "(I)Z"⟩, 20) := ⟨⟨by decide +kernel, by decide +kernel⟩, List.mem_of_getElem? (i := 1084) (by decide +kernel), List.mem_of_getElem? (i := 1201) (by decide +kernel), List.mem_of_getElem? (i := 1202) (by decide +kernel)⟩
theorem lw_p35 : lw_okq (⟨"UrnHeapModel", "greysIfWhite", "(I)V"⟩, 20) := ⟨⟨by decide +kernel, by decide +kernel⟩, List.mem_of_getElem? (i := 1084) (by decide +kernel), List.mem_of_getElem? (i := 1205) (by decide +kernel), List.mem_of_getElem? (i := 1206) (by decide +kernel)⟩
theorem lw_p36 : lw_okq (⟨"UrnHeapModel", "greys", "(I)V"⟩, 20) := ⟨⟨by decide +kernel, by decide +kernel⟩, List.mem_of_getElem? (i := 1084) (by decide +kernel), List.mem_of_getElem? (i := 1209) (by decide +kernel), List.mem_of_getElem? (i := 1210) (by decide +kernel)⟩
theorem lw_p37 : lw_okq (⟨"UrnHeapModel", "unties", "(II)I"⟩, 20) := ⟨⟨by decide +kernel, by decide +kernel⟩, List.mem_of_getElem? (i := 1084) (by decide +kernel), List.mem_of_getElem? (i := 1217) (by decide +kernel), List.mem_of_getElem? (i := 1218) (by decide +kernel)⟩
theorem lw_p38 : lw_okq (⟨"UrnHeapModel", "weakens", "(II)I"⟩, 20) := ⟨⟨by decide +kernel, by decide +kernel⟩, List.mem_of_getElem? (i := 1084) (by decide +kernel), List.mem_of_getElem? (i := 1225) (by decide +kernel), List.mem_of_getElem? (i := 1226) (by decide +kernel)⟩
theorem lw_p39 : lw_okq (⟨"UrnHeapModel", "names", "(II)I"⟩, 20) := ⟨⟨by decide +kernel, by decide +kernel⟩, List.mem_of_getElem? (i := 1084) (by decide +kernel), List.mem_of_getElem? (i := 1237) (by decide +kernel), List.mem_of_getElem? (i := 1238) (by decide +kernel)⟩
theorem lw_p40 : lw_okq (⟨"UrnHeapModel", "drops", "(I)I"⟩, 20) := ⟨⟨by decide +kernel, by decide +kernel⟩, List.mem_of_getElem? (i := 1084) (by decide +kernel), List.mem_of_getElem? (i := 1245) (by decide +kernel), List.mem_of_getElem? (i := 1246) (by decide +kernel)⟩
theorem lw_p41 : lw_okq (⟨"UrnHeapModel", "holds", "(I)I"⟩, 20) := ⟨⟨by decide +kernel, by decide +kernel⟩, List.mem_of_getElem? (i := 1084) (by decide +kernel), List.mem_of_getElem? (i := 1253) (by decide +kernel), List.mem_of_getElem? (i := 1254) (by decide +kernel)⟩
theorem lw_p42 : lw_okq (⟨"UrnHeapModel", "held", "(I)I"⟩, 20) := ⟨⟨by decide +kernel, by decide +kernel⟩, List.mem_of_getElem? (i := 1084) (by decide +kernel), List.mem_of_getElem? (i := 1257) (by decide +kernel), List.mem_of_getElem? (i := 1258) (by decide +kernel)⟩
theorem lw_p43 : lw_okq (⟨"UrnHeapModel", "beginsRound", "()I"⟩, 20) := ⟨⟨by decide +kernel, by decide +kernel⟩, List.mem_of_getElem? (i := 1084) (by decide +kernel), List.mem_of_getElem? (i := 1273) (by decide +kernel), List.mem_of_getElem? (i := 1274) (by decide +kernel)⟩
theorem lw_p44 : lw_okq (⟨"UrnHeapModel", "stepsOn", "(I)I"⟩, 20) := ⟨⟨by decide +kernel, by decide +kernel⟩, List.mem_of_getElem? (i := 1084) (by decide +kernel), List.mem_of_getElem? (i := 1281) (by decide +kernel), List.mem_of_getElem? (i := 1282) (by decide +kernel)⟩
theorem lw_p45 : lw_okq (⟨"UrnHeapModel", "partsOn", "(I)I"⟩, 20) := ⟨⟨by decide +kernel, by decide +kernel⟩, List.mem_of_getElem? (i := 1084) (by decide +kernel), List.mem_of_getElem? (i := 1285) (by decide +kernel), List.mem_of_getElem? (i := 1286) (by decide +kernel)⟩
theorem lw_p46 : lw_okq (⟨"UrnHeapModel", "part", "()V"⟩, 20) := ⟨⟨by decide +kernel, by decide +kernel⟩, List.mem_of_getElem? (i := 1084) (by decide +kernel), List.mem_of_getElem? (i := 1289) (by decide +kernel), List.mem_of_getElem? (i := 1290) (by decide +kernel)⟩
theorem lw_p47 : lw_okq (⟨"UrnHeapModel", "sweeps", "()V"⟩, 20) := ⟨⟨by decide +kernel, by decide +kernel⟩, List.mem_of_getElem? (i := 1084) (by decide +kernel), List.mem_of_getElem? (i := 1293) (by decide +kernel), List.mem_of_getElem? (i := 1294) (by decide +kernel)⟩
def lw_privs_3 : List (MethodName × Nat) := [(⟨"UrnHeapModel", "ties", "(III)I"⟩, 20), (⟨"UrnHeapModel", "isUrn", "(I)Z"⟩, 20), (⟨"UrnHeapModel", "isDoomed", "(I)Z"⟩, 20), (⟨"UrnHeapModel", "greysIfWhite", "(I)V"⟩, 20), (⟨"UrnHeapModel", "greys", "(I)V"⟩, 20), (⟨"UrnHeapModel", "unties", "(II)I"⟩, 20), (⟨"UrnHeapModel", "weakens", "(II)I"⟩, 20), (⟨"UrnHeapModel", "names", "(II)I"⟩, 20), (⟨"UrnHeapModel", "drops", "(I)I"⟩, 20), (⟨"UrnHeapModel", "holds", "(I)I"⟩, 20), (⟨"UrnHeapModel", "held", "(I)I"⟩, 20), (⟨"UrnHeapModel", "beginsRound", "()I"⟩, 20), (⟨"UrnHeapModel", "stepsOn", "(I)I"⟩, 20), (⟨"UrnHeapModel", "partsOn", "(I)I"⟩, 20), (⟨"UrnHeapModel", "part", "()V"⟩, 20), (⟨"UrnHeapModel", "sweeps", "()V"⟩, 20)]
theorem lw_r3 : ∀ q ∈ lw_privs_3, lw_okq q := List.forall_mem_cons.mpr ⟨lw_p32, List.forall_mem_cons.mpr ⟨lw_p33, List.forall_mem_cons.mpr ⟨lw_p34, List.forall_mem_cons.mpr ⟨lw_p35, List.forall_mem_cons.mpr ⟨lw_p36, List.forall_mem_cons.mpr ⟨lw_p37, List.forall_mem_cons.mpr ⟨lw_p38, List.forall_mem_cons.mpr ⟨lw_p39, List.forall_mem_cons.mpr ⟨lw_p40, List.forall_mem_cons.mpr ⟨lw_p41, List.forall_mem_cons.mpr ⟨lw_p42, List.forall_mem_cons.mpr ⟨lw_p43, List.forall_mem_cons.mpr ⟨lw_p44, List.forall_mem_cons.mpr ⟨lw_p45, List.forall_mem_cons.mpr ⟨lw_p46, List.forall_mem_cons.mpr ⟨lw_p47, fun _ h => absurd h List.not_mem_nil⟩⟩⟩⟩⟩⟩⟩⟩⟩⟩⟩⟩⟩⟩⟩⟩
theorem lw_p48 : lw_okq (⟨"UrnHeapModel", "frees", "(I)V"⟩, 20) := ⟨⟨by decide +kernel, by decide +kernel⟩, List.mem_of_getElem? (i := 1084) (by decide +kernel), List.mem_of_getElem? (i := 1297) (by decide +kernel), List.mem_of_getElem? (i := 1298) (by decide +kernel)⟩
theorem lw_p49 : lw_okq (⟨"UrnHeapModel", "blackens", "()V"⟩, 20) := ⟨⟨by decide +kernel, by decide +kernel⟩, List.mem_of_getElem? (i := 1084) (by decide +kernel), List.mem_of_getElem? (i := 1301) (by decide +kernel), List.mem_of_getElem? (i := 1302) (by decide +kernel)⟩
theorem lw_p50 : lw_okq (⟨"UrnHeapModel", "becomeDue", "()Z"⟩, 20) := ⟨⟨by decide +kernel, by decide +kernel⟩, List.mem_of_getElem? (i := 1084) (by decide +kernel), List.mem_of_getElem? (i := 1305) (by decide +kernel), List.mem_of_getElem? (i := 1306) (by decide +kernel)⟩
theorem lw_p51 : lw_okq (⟨"UrnHeapModel", "cutsWeak", "()V"⟩, 20) := ⟨⟨by decide +kernel, by decide +kernel⟩, List.mem_of_getElem? (i := 1084) (by decide +kernel), List.mem_of_getElem? (i := 1309) (by decide +kernel), List.mem_of_getElem? (i := 1310) (by decide +kernel)⟩
theorem lw_p52 : lw_okq (⟨"UrnHeapModel", "wholeRound", "()I"⟩, 20) := ⟨⟨by decide +kernel, by decide +kernel⟩, List.mem_of_getElem? (i := 1084) (by decide +kernel), List.mem_of_getElem? (i := 1317) (by decide +kernel), List.mem_of_getElem? (i := 1318) (by decide +kernel)⟩
theorem lw_p53 : lw_okq (⟨"UrnHeapModel", "doesRite", "()I"⟩, 20) := ⟨⟨by decide +kernel, by decide +kernel⟩, List.mem_of_getElem? (i := 1084) (by decide +kernel), List.mem_of_getElem? (i := 1325) (by decide +kernel), List.mem_of_getElem? (i := 1326) (by decide +kernel)⟩
theorem lw_p54 : lw_okq (⟨"UrnHeapModel", "measures", "(IZ)V"⟩, 20) := ⟨⟨by decide +kernel, by decide +kernel⟩, List.mem_of_getElem? (i := 1084) (by decide +kernel), List.mem_of_getElem? (i := 1345) (by decide +kernel), List.mem_of_getElem? (i := 1346) (by decide +kernel)⟩
theorem lw_p55 : lw_okq (⟨"UrnHeapModel", "nears", "(II)V"⟩, 20) := ⟨⟨by decide +kernel, by decide +kernel⟩, List.mem_of_getElem? (i := 1084) (by decide +kernel), List.mem_of_getElem? (i := 1349) (by decide +kernel), List.mem_of_getElem? (i := 1350) (by decide +kernel)⟩
theorem lw_p56 : lw_okq (⟨"UrnHeapModel", "reached", "()I"⟩, 20) := ⟨⟨by decide +kernel, by decide +kernel⟩, List.mem_of_getElem? (i := 1084) (by decide +kernel), List.mem_of_getElem? (i := 1353) (by decide +kernel), List.mem_of_getElem? (i := 1354) (by decide +kernel)⟩
theorem lw_p57 : lw_okq (⟨"UrnHeapModel", "urns", "()I"⟩, 20) := ⟨⟨by decide +kernel, by decide +kernel⟩, List.mem_of_getElem? (i := 1084) (by decide +kernel), List.mem_of_getElem? (i := 1378) (by decide +kernel), List.mem_of_getElem? (i := 1379) (by decide +kernel)⟩
theorem lw_p58 : lw_okq (⟨"UrnHeapModel", "isAhead", "(II)Z"⟩, 20) := ⟨⟨by decide +kernel, by decide +kernel⟩, List.mem_of_getElem? (i := 1084) (by decide +kernel), List.mem_of_getElem? (i := 1386) (by decide +kernel), List.mem_of_getElem? (i := 1387) (by decide +kernel)⟩
theorem lw_p59 : lw_okq (⟨"UrnHeapModel", "readsOne", "()V"⟩, 20) := ⟨⟨by decide +kernel, by decide +kernel⟩, List.mem_of_getElem? (i := 1084) (by decide +kernel), List.mem_of_getElem? (i := 1398) (by decide +kernel), List.mem_of_getElem? (i := 1399) (by decide +kernel)⟩
theorem lw_p60 : lw_okq (⟨"UrnHeapModel", "here", "()I"⟩, 20) := ⟨⟨by decide +kernel, by decide +kernel⟩, List.mem_of_getElem? (i := 1084) (by decide +kernel), List.mem_of_getElem? (i := 1402) (by decide +kernel), List.mem_of_getElem? (i := 1403) (by decide +kernel)⟩
theorem lw_p61 : lw_okq (⟨"UrnHeapModel", "next", "()I"⟩, 20) := ⟨⟨by decide +kernel, by decide +kernel⟩, List.mem_of_getElem? (i := 1084) (by decide +kernel), List.mem_of_getElem? (i := 1406) (by decide +kernel), List.mem_of_getElem? (i := 1407) (by decide +kernel)⟩
theorem lw_p62 : lw_okq (⟨"UrnHeapModel", "tells", "(II)V"⟩, 20) := ⟨⟨by decide +kernel, by decide +kernel⟩, List.mem_of_getElem? (i := 1084) (by decide +kernel), List.mem_of_getElem? (i := 1410) (by decide +kernel), List.mem_of_getElem? (i := 1411) (by decide +kernel)⟩
theorem lw_p63 : lw_okq (⟨"UrnHeapModel", "word", "(Ljava/lang/String;)V"⟩, 20) := ⟨⟨by decide +kernel, by decide +kernel⟩, List.mem_of_getElem? (i := 1084) (by decide +kernel), List.mem_of_getElem? (i := 1415) (by decide +kernel), List.mem_of_getElem? (i := 1416) (by decide +kernel)⟩
def lw_privs_4 : List (MethodName × Nat) := [(⟨"UrnHeapModel", "frees", "(I)V"⟩, 20), (⟨"UrnHeapModel", "blackens", "()V"⟩, 20), (⟨"UrnHeapModel", "becomeDue", "()Z"⟩, 20), (⟨"UrnHeapModel", "cutsWeak", "()V"⟩, 20), (⟨"UrnHeapModel", "wholeRound", "()I"⟩, 20), (⟨"UrnHeapModel", "doesRite", "()I"⟩, 20), (⟨"UrnHeapModel", "measures", "(IZ)V"⟩, 20), (⟨"UrnHeapModel", "nears", "(II)V"⟩, 20), (⟨"UrnHeapModel", "reached", "()I"⟩, 20), (⟨"UrnHeapModel", "urns", "()I"⟩, 20), (⟨"UrnHeapModel", "isAhead", "(II)Z"⟩, 20), (⟨"UrnHeapModel", "readsOne", "()V"⟩, 20), (⟨"UrnHeapModel", "here", "()I"⟩, 20), (⟨"UrnHeapModel", "next", "()I"⟩, 20), (⟨"UrnHeapModel", "tells", "(II)V"⟩, 20), (⟨"UrnHeapModel", "word", "(Ljava/lang/String;)V"⟩, 20)]
theorem lw_r4 : ∀ q ∈ lw_privs_4, lw_okq q := List.forall_mem_cons.mpr ⟨lw_p48, List.forall_mem_cons.mpr ⟨lw_p49, List.forall_mem_cons.mpr ⟨lw_p50, List.forall_mem_cons.mpr ⟨lw_p51, List.forall_mem_cons.mpr ⟨lw_p52, List.forall_mem_cons.mpr ⟨lw_p53, List.forall_mem_cons.mpr ⟨lw_p54, List.forall_mem_cons.mpr ⟨lw_p55, List.forall_mem_cons.mpr ⟨lw_p56, List.forall_mem_cons.mpr ⟨lw_p57, List.forall_mem_cons.mpr ⟨lw_p58, List.forall_mem_cons.mpr ⟨lw_p59, List.forall_mem_cons.mpr ⟨lw_p60, List.forall_mem_cons.mpr ⟨lw_p61, List.forall_mem_cons.mpr ⟨lw_p62, List.forall_mem_cons.mpr ⟨lw_p63, fun _ h => absurd h List.not_mem_nil⟩⟩⟩⟩⟩⟩⟩⟩⟩⟩⟩⟩⟩⟩⟩⟩
theorem lw_p64 : lw_okq (⟨"UrnHeapModel", "slotOf", "(Ljava/lang/String;)V"⟩, 20) := ⟨⟨by decide +kernel, by decide +kernel⟩, List.mem_of_getElem? (i := 1084) (by decide +kernel), List.mem_of_getElem? (i := 1422) (by decide +kernel), List.mem_of_getElem? (i := 1423) (by decide +kernel)⟩
theorem lw_p65 : lw_okq (⟨"UrnHeapModel", "number", "(II)V"⟩, 20) := ⟨⟨by decide +kernel, by decide +kernel⟩, List.mem_of_getElem? (i := 1084) (by decide +kernel), List.mem_of_getElem? (i := 1426) (by decide +kernel), List.mem_of_getElem? (i := 1427) (by decide +kernel)⟩
theorem lw_p66 : lw_okq (⟨"UrnHeapModel", "letter", "(I)V"⟩, 20) := ⟨⟨by decide +kernel, by decide +kernel⟩, List.mem_of_getElem? (i := 1084) (by decide +kernel), List.mem_of_getElem? (i := 1434) (by decide +kernel), List.mem_of_getElem? (i := 1435) (by decide +kernel)⟩
theorem lw_p67 : lw_okq (⟨"UrnHeapModel", "does", "(I)I"⟩, 20) := ⟨⟨by decide +kernel, by decide +kernel⟩, List.mem_of_getElem? (i := 1084) (by decide +kernel), List.mem_of_getElem? (i := 1443) (by decide +kernel), List.mem_of_getElem? (i := 1444) (by decide +kernel)⟩
theorem lw_p68 : lw_okq (⟨"UrnHeapModel", "writesNumber", "(I)V"⟩, 20) := ⟨⟨by decide +kernel, by decide +kernel⟩, List.mem_of_getElem? (i := 1084) (by decide +kernel), List.mem_of_getElem? (i := 1451) (by decide +kernel), List.mem_of_getElem? (i := 1452) (by decide +kernel)⟩
theorem lw_p69 : lw_okq (⟨"UrnHeapModel", "writes", "(I)V"⟩, 20) := ⟨⟨by decide +kernel, by decide +kernel⟩, List.mem_of_getElem? (i := 1084) (by decide +kernel), List.mem_of_getElem? (i := 1455) (by decide +kernel), List.mem_of_getElem? (i := 1456) (by decide +kernel)⟩
theorem lw_p70 : lw_okq (⟨"UrnHeapModel", "manyThat", "(I)I"⟩, 20) := ⟨⟨by decide +kernel, by decide +kernel⟩, List.mem_of_getElem? (i := 1084) (by decide +kernel), List.mem_of_getElem? (i := 1475) (by decide +kernel), List.mem_of_getElem? (i := 1476) (by decide +kernel)⟩
theorem lw_p71 : lw_okq (⟨"UrnHeapModel", "manyUrns", "()I"⟩, 20) := ⟨⟨by decide +kernel, by decide +kernel⟩, List.mem_of_getElem? (i := 1084) (by decide +kernel), List.mem_of_getElem? (i := 1479) (by decide +kernel), List.mem_of_getElem? (i := 1480) (by decide +kernel)⟩
theorem lw_p72 : lw_okq (⟨"UrnHeapModel", "namesUsed", "()I"⟩, 20) := ⟨⟨by decide +kernel, by decide +kernel⟩, List.mem_of_getElem? (i := 1084) (by decide +kernel), List.mem_of_getElem? (i := 1483) (by decide +kernel), List.mem_of_getElem? (i := 1484) (by decide +kernel)⟩
theorem lw_p73 : lw_okq (⟨"UrnHeapModel", "isFit", "(I)Z"⟩, 20) := ⟨⟨by decide +kernel, by decide +kernel⟩, List.mem_of_getElem? (i := 1084) (by decide +kernel), List.mem_of_getElem? (i := 1491) (by decide +kernel), List.mem_of_getElem? (i := 1492) (by decide +kernel)⟩
theorem lw_p74 : lw_okq (⟨"UrnHeapModel", "isThere", "(I)Z"⟩, 20) := ⟨⟨by decide +kernel, by decide +kernel⟩, List.mem_of_getElem? (i := 1084) (by decide +kernel), List.mem_of_getElem? (i := 1495) (by decide +kernel), List.mem_of_getElem? (i := 1496) (by decide +kernel)⟩
def lw_privs_5 : List (MethodName × Nat) := [(⟨"UrnHeapModel", "slotOf", "(Ljava/lang/String;)V"⟩, 20), (⟨"UrnHeapModel", "number", "(II)V"⟩, 20), (⟨"UrnHeapModel", "letter", "(I)V"⟩, 20), (⟨"UrnHeapModel", "does", "(I)I"⟩, 20), (⟨"UrnHeapModel", "writesNumber", "(I)V"⟩, 20), (⟨"UrnHeapModel", "writes", "(I)V"⟩, 20), (⟨"UrnHeapModel", "manyThat", "(I)I"⟩, 20), (⟨"UrnHeapModel", "manyUrns", "()I"⟩, 20), (⟨"UrnHeapModel", "namesUsed", "()I"⟩, 20), (⟨"UrnHeapModel", "isFit", "(I)Z"⟩, 20), (⟨"UrnHeapModel", "isThere", "(I)Z"⟩, 20)]
theorem lw_r5 : ∀ q ∈ lw_privs_5, lw_okq q := List.forall_mem_cons.mpr ⟨lw_p64, List.forall_mem_cons.mpr ⟨lw_p65, List.forall_mem_cons.mpr ⟨lw_p66, List.forall_mem_cons.mpr ⟨lw_p67, List.forall_mem_cons.mpr ⟨lw_p68, List.forall_mem_cons.mpr ⟨lw_p69, List.forall_mem_cons.mpr ⟨lw_p70, List.forall_mem_cons.mpr ⟨lw_p71, List.forall_mem_cons.mpr ⟨lw_p72, List.forall_mem_cons.mpr ⟨lw_p73, List.forall_mem_cons.mpr ⟨lw_p74, fun _ h => absurd h List.not_mem_nil⟩⟩⟩⟩⟩⟩⟩⟩⟩⟩⟩
def lw_privs : List (MethodName × Nat) := lw_privs_1 ++ (lw_privs_2 ++ (lw_privs_3 ++ (lw_privs_4 ++ (lw_privs_5))))
def lw_tbl : List Cond := k2_sels lw_privs ++ tables_1
theorem lw_privs_ok : ∀ q ∈ lw_privs, lw_okq q := by
  show ∀ q ∈ lw_privs_1 ++ (lw_privs_2 ++ (lw_privs_3 ++ (lw_privs_4 ++ (lw_privs_5)))), lw_okq q
  exact List.forall_mem_append.mpr ⟨lw_r1, List.forall_mem_append.mpr ⟨lw_r2, List.forall_mem_append.mpr ⟨lw_r3, List.forall_mem_append.mpr ⟨lw_r4, lw_r5⟩⟩⟩⟩
/-- the streams that the claim lets the run draw from -/
abbrev lw_cs : List Choice := [Jvm.Choice.named "NaN.bits"]
theorem lw_bits : nanBits ∈ lw_cs := by first | decide | exact List.mem_cons_self | simp [lw_cs, nanBits]
-- ===== end of PART A; then your names; then what follows =====
end
section
def RX0 : String := "UrnHeap$1"
def TX0 : u_T := fun k => match k with
  | _ => ("", "", "", false)
def tyX0 : Nat → FieldType := fun k => match k with
  | _ => .int
abbrev wsX00 : List Cond := u_ws "UrnHeap$1" TX0 0
theorem nmX0 : ∀ a, a < 0 → ∀ b, b < 0 → a ≠ b → (TX0 a).2.1 ≠ (TX0 b).2.1 := by decide +kernel
theorem tyX0_ok : ∀ k, k < 0 → parseFieldDescriptor (TX0 k).2.2.1 = some (tyX0 k) := by decide +kernel
def RX1 : String := "UrnHeap$Hands"
def TX1 : u_T := fun k => match k with
  | 0 => ("UrnHeap$Hands", "heap", "LUrnHeap$Heap;", true)
  | _ => ("UrnHeap$Hands", "refusals", "LUrnHeap$Refusals;", true)
def tyX1 : Nat → FieldType := fun k => match k with
  | 0 => .object "UrnHeap$Heap"
  | _ => .object "UrnHeap$Refusals"
abbrev wsX10 : List Cond := u_ws "UrnHeap$Hands" TX1 2
theorem nmX1 : ∀ a, a < 2 → ∀ b, b < 2 → a ≠ b → (TX1 a).2.1 ≠ (TX1 b).2.1 := by decide +kernel
theorem tyX1_ok : ∀ k, k < 2 → parseFieldDescriptor (TX1 k).2.2.1 = some (tyX1 k) := by decide +kernel
abbrev cX1_init : ByteArray := prog_3_method_1_code
def yX1_init : MethodName := ⟨"UrnHeap$Hands", "<init>", "(LUrnHeap$Heap;LUrnHeap$Refusals;)V"⟩
abbrev cX1_makeUrn : ByteArray := prog_3_method_2_code
def yX1_makeUrn : MethodName := ⟨"UrnHeap$Hands", "makeUrn", "(Z)I"⟩
abbrev cX1_colourOfNew : ByteArray := prog_3_method_3_code
def yX1_colourOfNew : MethodName := ⟨"UrnHeap$Hands", "colourOfNew", "(I)I"⟩
abbrev cX1_tieThread : ByteArray := prog_3_method_4_code
def yX1_tieThread : MethodName := ⟨"UrnHeap$Hands", "tieThread", "(III)I"⟩
abbrev cX1_takeThread : ByteArray := prog_3_method_5_code
def yX1_takeThread : MethodName := ⟨"UrnHeap$Hands", "takeThread", "(II)I"⟩
abbrev cX1_tieWeak : ByteArray := prog_3_method_6_code
def yX1_tieWeak : MethodName := ⟨"UrnHeap$Hands", "tieWeak", "(II)I"⟩
abbrev cX1_takeWeak : ByteArray := prog_3_method_7_code
def yX1_takeWeak : MethodName := ⟨"UrnHeap$Hands", "takeWeak", "(I)I"⟩
abbrev cX1_giveName : ByteArray := prog_3_method_8_code
def yX1_giveName : MethodName := ⟨"UrnHeap$Hands", "giveName", "(II)I"⟩
abbrev cX1_takeName : ByteArray := prog_3_method_9_code
def yX1_takeName : MethodName := ⟨"UrnHeap$Hands", "takeName", "(I)I"⟩
def RX2 : String := "UrnHeap$Heap"
def TX2 : u_T := fun k => match k with
  | 0 => ("UrnHeap$Heap", "threads", "[I", true)
  | 1 => ("UrnHeap$Heap", "weaks", "[I", true)
  | 2 => ("UrnHeap$Heap", "rites", "[I", true)
  | 3 => ("UrnHeap$Heap", "colours", "[I", true)
  | 4 => ("UrnHeap$Heap", "madeIn", "[I", true)
  | 5 => ("UrnHeap$Heap", "names", "[I", true)
  | 6 => ("UrnHeap$Heap", "late", "[I", true)
  | 7 => ("UrnHeap$Heap", "greys", "LUrnHeap$Row;", true)
  | 8 => ("UrnHeap$Heap", "dues", "LUrnHeap$Row;", true)
  | 9 => ("UrnHeap$Heap", "phase", "I", false)
  | 10 => ("UrnHeap$Heap", "nextSwept", "I", false)
  | 11 => ("UrnHeap$Heap", "roundsOver", "I", false)
  | 12 => ("UrnHeap$Heap", "urnsMade", "I", false)
  | 13 => ("UrnHeap$Heap", "urnsFreed", "I", false)
  | 14 => ("UrnHeap$Heap", "ritesDone", "I", false)
  | 15 => ("UrnHeap$Heap", "weaksCut", "I", false)
  | _ => ("UrnHeap$Heap", "partsDone", "I", false)
def tyX2 : Nat → FieldType := fun k => match k with
  | 0 => .array .int
  | 1 => .array .int
  | 2 => .array .int
  | 3 => .array .int
  | 4 => .array .int
  | 5 => .array .int
  | 6 => .array .int
  | 7 => .object "UrnHeap$Row"
  | 8 => .object "UrnHeap$Row"
  | 9 => .int
  | 10 => .int
  | 11 => .int
  | 12 => .int
  | 13 => .int
  | 14 => .int
  | 15 => .int
  | _ => .int
abbrev wsX20 : List Cond := u_ws "UrnHeap$Heap" TX2 17
theorem nmX2 : ∀ a, a < 17 → ∀ b, b < 17 → a ≠ b → (TX2 a).2.1 ≠ (TX2 b).2.1 := by decide +kernel
theorem tyX2_ok : ∀ k, k < 17 → parseFieldDescriptor (TX2 k).2.2.1 = some (tyX2 k) := by decide +kernel
abbrev cX2_init : ByteArray := prog_4_method_1_code
def yX2_init : MethodName := ⟨"UrnHeap$Heap", "<init>", "()V"⟩
abbrev cX2_copyFrom : ByteArray := prog_4_method_2_code
def yX2_copyFrom : MethodName := ⟨"UrnHeap$Heap", "copyFrom", "(LUrnHeap$Heap;)V"⟩
abbrev cX2_hasUrn : ByteArray := prog_4_method_3_code
def yX2_hasUrn : MethodName := ⟨"UrnHeap$Heap", "hasUrn", "(I)Z"⟩
abbrev cX2_isWhite : ByteArray := prog_4_method_4_code
def yX2_isWhite : MethodName := ⟨"UrnHeap$Heap", "isWhite", "(I)Z"⟩
abbrev cX2_isToBeSwept : ByteArray := prog_4_method_5_code
def yX2_isToBeSwept : MethodName := ⟨"UrnHeap$Heap", "isToBeSwept", "(I)Z"⟩
abbrev cX2_target : ByteArray := prog_4_method_6_code
def yX2_target : MethodName := ⟨"UrnHeap$Heap", "target", "(II)I"⟩
abbrev cX2_urns : ByteArray := prog_4_method_7_code
def yX2_urns : MethodName := ⟨"UrnHeap$Heap", "urns", "()I"⟩
abbrev cX2_urnsOf : ByteArray := prog_4_method_8_code
def yX2_urnsOf : MethodName := ⟨"UrnHeap$Heap", "urnsOf", "(I)I"⟩
abbrev cX2_namesInUse : ByteArray := prog_4_method_9_code
def yX2_namesInUse : MethodName := ⟨"UrnHeap$Heap", "namesInUse", "()I"⟩
abbrev cX2_threadsFrom : ByteArray := prog_4_method_10_code
def yX2_threadsFrom : MethodName := ⟨"UrnHeap$Heap", "threadsFrom", "(I)I"⟩
abbrev cX2_holdersOf : ByteArray := prog_4_method_11_code
def yX2_holdersOf : MethodName := ⟨"UrnHeap$Heap", "holdersOf", "(I)I"⟩
abbrev cX2_holdersOfAll : ByteArray := prog_4_method_12_code
def yX2_holdersOfAll : MethodName := ⟨"UrnHeap$Heap", "holdersOfAll", "()I"⟩
abbrev cX2_freedLate : ByteArray := prog_4_method_13_code
def yX2_freedLate : MethodName := ⟨"UrnHeap$Heap", "freedLate", "(I)I"⟩
abbrev cX2_makeGrey : ByteArray := prog_4_method_14_code
def yX2_makeGrey : MethodName := ⟨"UrnHeap$Heap", "makeGrey", "(I)V"⟩
abbrev cX2_makeGreyInRound : ByteArray := prog_4_method_15_code
def yX2_makeGreyInRound : MethodName := ⟨"UrnHeap$Heap", "makeGreyInRound", "(I)V"⟩
abbrev cX2_free : ByteArray := prog_4_method_16_code
def yX2_free : MethodName := ⟨"UrnHeap$Heap", "free", "(I)V"⟩
abbrev cX2_isSound : ByteArray := prog_4_method_17_code
def yX2_isSound : MethodName := ⟨"UrnHeap$Heap", "isSound", "()Z"⟩
abbrev cX2_areUrns : ByteArray := prog_4_method_18_code
def yX2_areUrns : MethodName := ⟨"UrnHeap$Heap", "areUrns", "([I)Z"⟩
abbrev cX2_hasBlackToWhite : ByteArray := prog_4_method_19_code
def yX2_hasBlackToWhite : MethodName := ⟨"UrnHeap$Heap", "hasBlackToWhite", "()Z"⟩
def RX3 : String := "UrnHeap$History"
def TX3 : u_T := fun k => match k with
  | 0 => ("UrnHeap$History", "now", "LUrnHeap$Heap;", true)
  | 1 => ("UrnHeap$History", "past", "[LUrnHeap$Heap;", true)
  | 2 => ("UrnHeap$History", "saved", "LUrnHeap$Heap;", true)
  | 3 => ("UrnHeap$History", "isSaved", "Z", false)
  | 4 => ("UrnHeap$History", "next", "I", false)
  | _ => ("UrnHeap$History", "changes", "I", false)
def tyX3 : Nat → FieldType := fun k => match k with
  | 0 => .object "UrnHeap$Heap"
  | 1 => .array (.object "UrnHeap$Heap")
  | 2 => .object "UrnHeap$Heap"
  | 3 => .boolean
  | 4 => .int
  | _ => .int
abbrev wsX30 : List Cond := u_ws "UrnHeap$History" TX3 6
theorem nmX3 : ∀ a, a < 6 → ∀ b, b < 6 → a ≠ b → (TX3 a).2.1 ≠ (TX3 b).2.1 := by decide +kernel
theorem tyX3_ok : ∀ k, k < 6 → parseFieldDescriptor (TX3 k).2.2.1 = some (tyX3 k) := by decide +kernel
abbrev cX3_init : ByteArray := prog_5_method_1_code
def yX3_init : MethodName := ⟨"UrnHeap$History", "<init>", "(LUrnHeap$Heap;)V"⟩
abbrev cX3_isRefusal : ByteArray := prog_5_method_2_code
def yX3_isRefusal : MethodName := ⟨"UrnHeap$History", "isRefusal", "(I)Z"⟩
abbrev cX3_keepBefore : ByteArray := prog_5_method_3_code
def yX3_keepBefore : MethodName := ⟨"UrnHeap$History", "keepBefore", "()V"⟩
abbrev cX3_takeBack : ByteArray := prog_5_method_4_code
def yX3_takeBack : MethodName := ⟨"UrnHeap$History", "takeBack", "()V"⟩
abbrev cX3_settle : ByteArray := prog_5_method_5_code
def yX3_settle : MethodName := ⟨"UrnHeap$History", "settle", "(I)I"⟩
abbrev cX3_undoLatest : ByteArray := prog_5_method_6_code
def yX3_undoLatest : MethodName := ⟨"UrnHeap$History", "undoLatest", "()I"⟩
abbrev cX3_saveNow : ByteArray := prog_5_method_7_code
def yX3_saveNow : MethodName := ⟨"UrnHeap$History", "saveNow", "()I"⟩
abbrev cX3_restoreSaved : ByteArray := prog_5_method_8_code
def yX3_restoreSaved : MethodName := ⟨"UrnHeap$History", "restoreSaved", "()I"⟩
def RX4 : String := "UrnHeap$Kind"
def TX4 : u_T := fun k => match k with
  | _ => ("", "", "", false)
def tyX4 : Nat → FieldType := fun k => match k with
  | _ => .int
abbrev wsX40 : List Cond := u_ws "UrnHeap$Kind" TX4 0
theorem nmX4 : ∀ a, a < 0 → ∀ b, b < 0 → a ≠ b → (TX4 a).2.1 ≠ (TX4 b).2.1 := by decide +kernel
theorem tyX4_ok : ∀ k, k < 0 → parseFieldDescriptor (TX4 k).2.2.1 = some (tyX4 k) := by decide +kernel
def RX5 : String := "UrnHeap$Line"
def TX5 : u_T := fun k => match k with
  | _ => ("UrnHeap$Line", "signs", "Ljava/lang/StringBuilder;", true)
def tyX5 : Nat → FieldType := fun k => match k with
  | _ => .object "java/lang/StringBuilder"
abbrev wsX50 : List Cond := u_ws "UrnHeap$Line" TX5 1
theorem nmX5 : ∀ a, a < 1 → ∀ b, b < 1 → a ≠ b → (TX5 a).2.1 ≠ (TX5 b).2.1 := by decide +kernel
theorem tyX5_ok : ∀ k, k < 1 → parseFieldDescriptor (TX5 k).2.2.1 = some (tyX5 k) := by decide +kernel
abbrev cX5_init : ByteArray := prog_7_method_1_code
def yX5_init : MethodName := ⟨"UrnHeap$Line", "<init>", "()V"⟩
abbrev cX5_writeUrn : ByteArray := prog_7_method_2_code
def yX5_writeUrn : MethodName := ⟨"UrnHeap$Line", "writeUrn", "(LUrnHeap$Heap;I)I"⟩
abbrev cX5_writeHeap : ByteArray := prog_7_method_3_code
def yX5_writeHeap : MethodName := ⟨"UrnHeap$Line", "writeHeap", "(LUrnHeap$Heap;)I"⟩
abbrev cX5_signAt : ByteArray := prog_7_method_4_code
def yX5_signAt : MethodName := ⟨"UrnHeap$Line", "signAt", "(I)I"⟩
abbrev cX5_writeRite : ByteArray := prog_7_method_5_code
def yX5_writeRite : MethodName := ⟨"UrnHeap$Line", "writeRite", "(LUrnHeap$Heap;I)V"⟩
abbrev cX5_writeTarget : ByteArray := prog_7_method_6_code
def yX5_writeTarget : MethodName := ⟨"UrnHeap$Line", "writeTarget", "(I)V"⟩
abbrev cX5_letterOf : ByteArray := prog_7_method_7_code
def yX5_letterOf : MethodName := ⟨"UrnHeap$Line", "letterOf", "(I)C"⟩
def RX6 : String := "UrnHeap$Orders"
def TX6 : u_T := fun k => match k with
  | 0 => ("UrnHeap$Orders", "text", "Ljava/lang/StringBuilder;", true)
  | 1 => ("UrnHeap$Orders", "kinds", "[LUrnHeap$Kind;", true)
  | 2 => ("UrnHeap$Orders", "firsts", "[I", true)
  | 3 => ("UrnHeap$Orders", "seconds", "[I", true)
  | 4 => ("UrnHeap$Orders", "thirds", "[I", true)
  | 5 => ("UrnHeap$Orders", "count", "I", false)
  | 6 => ("UrnHeap$Orders", "numbers", "[I", true)
  | _ => ("UrnHeap$Orders", "at", "I", false)
def tyX6 : Nat → FieldType := fun k => match k with
  | 0 => .object "java/lang/StringBuilder"
  | 1 => .array (.object "UrnHeap$Kind")
  | 2 => .array .int
  | 3 => .array .int
  | 4 => .array .int
  | 5 => .int
  | 6 => .array .int
  | _ => .int
abbrev wsX60 : List Cond := u_ws "UrnHeap$Orders" TX6 8
theorem nmX6 : ∀ a, a < 8 → ∀ b, b < 8 → a ≠ b → (TX6 a).2.1 ≠ (TX6 b).2.1 := by decide +kernel
theorem tyX6_ok : ∀ k, k < 8 → parseFieldDescriptor (TX6 k).2.2.1 = some (tyX6 k) := by decide +kernel
abbrev cX6_init : ByteArray := prog_8_method_1_code
def yX6_init : MethodName := ⟨"UrnHeap$Orders", "<init>", "()V"⟩
abbrev cX6_addSign : ByteArray := prog_8_method_2_code
def yX6_addSign : MethodName := ⟨"UrnHeap$Orders", "addSign", "(I)I"⟩
abbrev cX6_signs : ByteArray := prog_8_method_3_code
def yX6_signs : MethodName := ⟨"UrnHeap$Orders", "signs", "()I"⟩
abbrev cX6_clearText : ByteArray := prog_8_method_4_code
def yX6_clearText : MethodName := ⟨"UrnHeap$Orders", "clearText", "()V"⟩
abbrev cX6_has : ByteArray := prog_8_method_5_code
def yX6_has : MethodName := ⟨"UrnHeap$Orders", "has", "(I)Z"⟩
abbrev cX6_read : ByteArray := prog_8_method_6_code
def yX6_read : MethodName := ⟨"UrnHeap$Orders", "read", "()I"⟩
abbrev cX6_readOrder : ByteArray := prog_8_method_7_code
def yX6_readOrder : MethodName := ⟨"UrnHeap$Orders", "readOrder", "(I)I"⟩
abbrev cX6_fits : ByteArray := prog_8_method_8_code
def yX6_fits : MethodName := ⟨"UrnHeap$Orders", "fits", "(Ljava/lang/String;)Z"⟩
abbrev cX6_isOrderEnd : ByteArray := prog_8_method_9_code
def yX6_isOrderEnd : MethodName := ⟨"UrnHeap$Orders", "isOrderEnd", "()Z"⟩
abbrev cX6_keep : ByteArray := prog_8_method_10_code
def yX6_keep : MethodName := ⟨"UrnHeap$Orders", "keep", "(LUrnHeap$Kind;)V"⟩
abbrev cX6_isForNumber : ByteArray := prog_8_method_11_code
def yX6_isForNumber : MethodName := ⟨"UrnHeap$Orders", "isForNumber", "(C)Z"⟩
abbrev cX6_readSign : ByteArray := prog_8_method_12_code
def yX6_readSign : MethodName := ⟨"UrnHeap$Orders", "readSign", "(C)I"⟩
abbrev cX6_valueAt : ByteArray := prog_8_method_13_code
def yX6_valueAt : MethodName := ⟨"UrnHeap$Orders", "valueAt", "(IC)I"⟩
def RX7 : String := "UrnHeap$Paths"
def TX7 : u_T := fun k => match k with
  | 0 => ("UrnHeap$Paths", "heap", "LUrnHeap$Heap;", true)
  | _ => ("UrnHeap$Paths", "weights", "[I", true)
def tyX7 : Nat → FieldType := fun k => match k with
  | 0 => .object "UrnHeap$Heap"
  | _ => .array .int
abbrev wsX70 : List Cond := u_ws "UrnHeap$Paths" TX7 2
theorem nmX7 : ∀ a, a < 2 → ∀ b, b < 2 → a ≠ b → (TX7 a).2.1 ≠ (TX7 b).2.1 := by decide +kernel
theorem tyX7_ok : ∀ k, k < 2 → parseFieldDescriptor (TX7 k).2.2.1 = some (tyX7 k) := by decide +kernel
abbrev cX7_init : ByteArray := prog_9_method_1_code
def yX7_init : MethodName := ⟨"UrnHeap$Paths", "<init>", "(LUrnHeap$Heap;)V"⟩
abbrev cX7_reach : ByteArray := prog_9_method_2_code
def yX7_reach : MethodName := ⟨"UrnHeap$Paths", "reach", "()I"⟩
abbrev cX7_roots : ByteArray := prog_9_method_3_code
def yX7_roots : MethodName := ⟨"UrnHeap$Paths", "roots", "(I)I"⟩
abbrev cX7_reachUrnByUrn : ByteArray := prog_9_method_4_code
def yX7_reachUrnByUrn : MethodName := ⟨"UrnHeap$Paths", "reachUrnByUrn", "()I"⟩
abbrev cX7_distance : ByteArray := prog_9_method_5_code
def yX7_distance : MethodName := ⟨"UrnHeap$Paths", "distance", "(II)I"⟩
abbrev cX7_neededNames : ByteArray := prog_9_method_6_code
def yX7_neededNames : MethodName := ⟨"UrnHeap$Paths", "neededNames", "(I)I"⟩
abbrev cX7_ringLength : ByteArray := prog_9_method_7_code
def yX7_ringLength : MethodName := ⟨"UrnHeap$Paths", "ringLength", "(I)I"⟩
abbrev cX7_leftOver : ByteArray := prog_9_method_8_code
def yX7_leftOver : MethodName := ⟨"UrnHeap$Paths", "leftOver", "()I"⟩
abbrev cX7_urnAtRank : ByteArray := prog_9_method_9_code
def yX7_urnAtRank : MethodName := ⟨"UrnHeap$Paths", "urnAtRank", "(I)I"⟩
abbrev cX7_weighAll : ByteArray := prog_9_method_10_code
def yX7_weighAll : MethodName := ⟨"UrnHeap$Paths", "weighAll", "()V"⟩
abbrev cX7_heavierThan : ByteArray := prog_9_method_11_code
def yX7_heavierThan : MethodName := ⟨"UrnHeap$Paths", "heavierThan", "(I)I"⟩
abbrev cX7_rootsByRite : ByteArray := prog_9_method_12_code
def yX7_rootsByRite : MethodName := ⟨"UrnHeap$Paths", "rootsByRite", "(I)I"⟩
abbrev cX7_reachFrom : ByteArray := prog_9_method_13_code
def yX7_reachFrom : MethodName := ⟨"UrnHeap$Paths", "reachFrom", "(I)I"⟩
abbrev cX7_targetsOfAll : ByteArray := prog_9_method_14_code
def yX7_targetsOfAll : MethodName := ⟨"UrnHeap$Paths", "targetsOfAll", "(I)I"⟩
abbrev cX7_targets : ByteArray := prog_9_method_15_code
def yX7_targets : MethodName := ⟨"UrnHeap$Paths", "targets", "(I)I"⟩
abbrev cX7_isHeldBySome : ByteArray := prog_9_method_16_code
def yX7_isHeldBySome : MethodName := ⟨"UrnHeap$Paths", "isHeldBySome", "(II)Z"⟩
abbrev cX7_bit : ByteArray := prog_9_method_17_code
def yX7_bit : MethodName := ⟨"UrnHeap$Paths", "bit", "(I)I"⟩
abbrev cX7_isIn : ByteArray := prog_9_method_18_code
def yX7_isIn : MethodName := ⟨"UrnHeap$Paths", "isIn", "(II)Z"⟩
def RX8 : String := "UrnHeap$Refusals"
def TX8 : u_T := fun k => match k with
  | 0 => ("UrnHeap$Refusals", "reason", "I", false)
  | _ => ("UrnHeap$Refusals", "detail", "I", false)
def tyX8 : Nat → FieldType := fun k => match k with
  | 0 => .int
  | _ => .int
abbrev wsX80 : List Cond := u_ws "UrnHeap$Refusals" TX8 2
theorem nmX8 : ∀ a, a < 2 → ∀ b, b < 2 → a ≠ b → (TX8 a).2.1 ≠ (TX8 b).2.1 := by decide +kernel
theorem tyX8_ok : ∀ k, k < 2 → parseFieldDescriptor (TX8 k).2.2.1 = some (tyX8 k) := by decide +kernel
abbrev cX8_init : ByteArray := prog_10_method_1_code
def yX8_init : MethodName := ⟨"UrnHeap$Refusals", "<init>", "()V"⟩
abbrev cX8_refuse : ByteArray := prog_10_method_2_code
def yX8_refuse : MethodName := ⟨"UrnHeap$Refusals", "refuse", "(II)I"⟩
def RX9 : String := "UrnHeap$Row"
def TX9 : u_T := fun k => match k with
  | 0 => ("UrnHeap$Row", "urns", "[I", true)
  | _ => ("UrnHeap$Row", "size", "I", false)
def tyX9 : Nat → FieldType := fun k => match k with
  | 0 => .array .int
  | _ => .int
abbrev wsX90 : List Cond := u_ws "UrnHeap$Row" TX9 2
theorem nmX9 : ∀ a, a < 2 → ∀ b, b < 2 → a ≠ b → (TX9 a).2.1 ≠ (TX9 b).2.1 := by decide +kernel
theorem tyX9_ok : ∀ k, k < 2 → parseFieldDescriptor (TX9 k).2.2.1 = some (tyX9 k) := by decide +kernel
abbrev cX9_init : ByteArray := prog_11_method_1_code
def yX9_init : MethodName := ⟨"UrnHeap$Row", "<init>", "()V"⟩
abbrev cX9_addLast : ByteArray := prog_11_method_2_code
def yX9_addLast : MethodName := ⟨"UrnHeap$Row", "addLast", "(I)V"⟩
abbrev cX9_takeFirst : ByteArray := prog_11_method_3_code
def yX9_takeFirst : MethodName := ⟨"UrnHeap$Row", "takeFirst", "()I"⟩
abbrev cX9_at : ByteArray := prog_11_method_4_code
def yX9_at : MethodName := ⟨"UrnHeap$Row", "at", "(I)I"⟩
abbrev cX9_copyFrom : ByteArray := prog_11_method_5_code
def yX9_copyFrom : MethodName := ⟨"UrnHeap$Row", "copyFrom", "(LUrnHeap$Row;)V"⟩
def RX10 : String := "UrnHeap$Sexton"
def TX10 : u_T := fun k => match k with
  | 0 => ("UrnHeap$Sexton", "heap", "LUrnHeap$Heap;", true)
  | _ => ("UrnHeap$Sexton", "refusals", "LUrnHeap$Refusals;", true)
def tyX10 : Nat → FieldType := fun k => match k with
  | 0 => .object "UrnHeap$Heap"
  | _ => .object "UrnHeap$Refusals"
abbrev wsX100 : List Cond := u_ws "UrnHeap$Sexton" TX10 2
theorem nmX10 : ∀ a, a < 2 → ∀ b, b < 2 → a ≠ b → (TX10 a).2.1 ≠ (TX10 b).2.1 := by decide +kernel
theorem tyX10_ok : ∀ k, k < 2 → parseFieldDescriptor (TX10 k).2.2.1 = some (tyX10 k) := by decide +kernel
abbrev cX10_init : ByteArray := prog_12_method_1_code
def yX10_init : MethodName := ⟨"UrnHeap$Sexton", "<init>", "(LUrnHeap$Heap;LUrnHeap$Refusals;)V"⟩
abbrev cX10_beginRound : ByteArray := prog_12_method_2_code
def yX10_beginRound : MethodName := ⟨"UrnHeap$Sexton", "beginRound", "()I"⟩
abbrev cX10_doParts : ByteArray := prog_12_method_3_code
def yX10_doParts : MethodName := ⟨"UrnHeap$Sexton", "doParts", "(I)I"⟩
abbrev cX10_endRound : ByteArray := prog_12_method_4_code
def yX10_endRound : MethodName := ⟨"UrnHeap$Sexton", "endRound", "()I"⟩
abbrev cX10_doRite : ByteArray := prog_12_method_5_code
def yX10_doRite : MethodName := ⟨"UrnHeap$Sexton", "doRite", "()I"⟩
abbrev cX10_markRoots : ByteArray := prog_12_method_6_code
def yX10_markRoots : MethodName := ⟨"UrnHeap$Sexton", "markRoots", "()V"⟩
abbrev cX10_doPartsUntilOver : ByteArray := prog_12_method_7_code
def yX10_doPartsUntilOver : MethodName := ⟨"UrnHeap$Sexton", "doPartsUntilOver", "(I)I"⟩
abbrev cX10_blackenFirst : ByteArray := prog_12_method_8_code
def yX10_blackenFirst : MethodName := ⟨"UrnHeap$Sexton", "blackenFirst", "()V"⟩
abbrev cX10_makeRitesDue : ByteArray := prog_12_method_9_code
def yX10_makeRitesDue : MethodName := ⟨"UrnHeap$Sexton", "makeRitesDue", "()Z"⟩
abbrev cX10_beginSweep : ByteArray := prog_12_method_10_code
def yX10_beginSweep : MethodName := ⟨"UrnHeap$Sexton", "beginSweep", "()V"⟩
abbrev cX10_sweepNext : ByteArray := prog_12_method_11_code
def yX10_sweepNext : MethodName := ⟨"UrnHeap$Sexton", "sweepNext", "()V"⟩
def RX11 : String := "UrnHeap"
def TX11 : u_T := fun k => match k with
  | 0 => ("UrnHeap", "heap", "LUrnHeap$Heap;", true)
  | 1 => ("UrnHeap", "refusals", "LUrnHeap$Refusals;", true)
  | 2 => ("UrnHeap", "hands", "LUrnHeap$Hands;", true)
  | 3 => ("UrnHeap", "sexton", "LUrnHeap$Sexton;", true)
  | 4 => ("UrnHeap", "paths", "LUrnHeap$Paths;", true)
  | 5 => ("UrnHeap", "history", "LUrnHeap$History;", true)
  | 6 => ("UrnHeap", "orders", "LUrnHeap$Orders;", true)
  | _ => ("UrnHeap", "line", "LUrnHeap$Line;", true)
def tyX11 : Nat → FieldType := fun k => match k with
  | 0 => .object "UrnHeap$Heap"
  | 1 => .object "UrnHeap$Refusals"
  | 2 => .object "UrnHeap$Hands"
  | 3 => .object "UrnHeap$Sexton"
  | 4 => .object "UrnHeap$Paths"
  | 5 => .object "UrnHeap$History"
  | 6 => .object "UrnHeap$Orders"
  | _ => .object "UrnHeap$Line"
abbrev wsX110 : List Cond := u_ws "UrnHeap" TX11 8
theorem nmX11 : ∀ a, a < 8 → ∀ b, b < 8 → a ≠ b → (TX11 a).2.1 ≠ (TX11 b).2.1 := by decide +kernel
theorem tyX11_ok : ∀ k, k < 8 → parseFieldDescriptor (TX11 k).2.2.1 = some (tyX11 k) := by decide +kernel
abbrev cX11_init : ByteArray := prog_1_method_1_code
def yX11_init : MethodName := ⟨"UrnHeap", "<init>", "()V"⟩
abbrev cX11_urn : ByteArray := prog_1_method_2_code
def yX11_urn : MethodName := ⟨"UrnHeap", "urn", "(Z)I"⟩
abbrev cX11_tie : ByteArray := prog_1_method_3_code
def yX11_tie : MethodName := ⟨"UrnHeap", "tie", "(III)I"⟩
abbrev cX11_untie : ByteArray := prog_1_method_4_code
def yX11_untie : MethodName := ⟨"UrnHeap", "untie", "(II)I"⟩
abbrev cX11_weak : ByteArray := prog_1_method_5_code
def yX11_weak : MethodName := ⟨"UrnHeap", "weak", "(II)I"⟩
abbrev cX11_unweak : ByteArray := prog_1_method_6_code
def yX11_unweak : MethodName := ⟨"UrnHeap", "unweak", "(I)I"⟩
abbrev cX11_name : ByteArray := prog_1_method_7_code
def yX11_name : MethodName := ⟨"UrnHeap", "name", "(II)I"⟩
abbrev cX11_drop : ByteArray := prog_1_method_8_code
def yX11_drop : MethodName := ⟨"UrnHeap", "drop", "(I)I"⟩
abbrev cX11_urnOf : ByteArray := prog_1_method_9_code
def yX11_urnOf : MethodName := ⟨"UrnHeap", "urnOf", "(II)I"⟩
abbrev cX11_threadOf : ByteArray := prog_1_method_10_code
def yX11_threadOf : MethodName := ⟨"UrnHeap", "threadOf", "(II)I"⟩
abbrev cX11_named : ByteArray := prog_1_method_11_code
def yX11_named : MethodName := ⟨"UrnHeap", "named", "(I)I"⟩
abbrev cX11_begin : ByteArray := prog_1_method_12_code
def yX11_begin : MethodName := ⟨"UrnHeap", "begin", "()I"⟩
abbrev cX11_step : ByteArray := prog_1_method_13_code
def yX11_step : MethodName := ⟨"UrnHeap", "step", "(I)I"⟩
abbrev cX11_round : ByteArray := prog_1_method_14_code
def yX11_round : MethodName := ⟨"UrnHeap", "round", "()I"⟩
abbrev cX11_rite : ByteArray := prog_1_method_15_code
def yX11_rite : MethodName := ⟨"UrnHeap", "rite", "()I"⟩
abbrev cX11_due : ByteArray := prog_1_method_16_code
def yX11_due : MethodName := ⟨"UrnHeap", "due", "(I)I"⟩
abbrev cX11_grey : ByteArray := prog_1_method_17_code
def yX11_grey : MethodName := ⟨"UrnHeap", "grey", "(I)I"⟩
abbrev cX11_freed : ByteArray := prog_1_method_18_code
def yX11_freed : MethodName := ⟨"UrnHeap", "freed", "(I)I"⟩
abbrev cX11_live : ByteArray := prog_1_method_19_code
def yX11_live : MethodName := ⟨"UrnHeap", "live", "()I"⟩
abbrev cX11_liveAgain : ByteArray := prog_1_method_20_code
def yX11_liveAgain : MethodName := ⟨"UrnHeap", "liveAgain", "()I"⟩
abbrev cX11_depth : ByteArray := prog_1_method_21_code
def yX11_depth : MethodName := ⟨"UrnHeap", "depth", "(I)I"⟩
abbrev cX11_keepers : ByteArray := prog_1_method_22_code
def yX11_keepers : MethodName := ⟨"UrnHeap", "keepers", "(I)I"⟩
abbrev cX11_ring : ByteArray := prog_1_method_23_code
def yX11_ring : MethodName := ⟨"UrnHeap", "ring", "(I)I"⟩
abbrev cX11_wouldFree : ByteArray := prog_1_method_24_code
def yX11_wouldFree : MethodName := ⟨"UrnHeap", "wouldFree", "()I"⟩
abbrev cX11_ranked : ByteArray := prog_1_method_25_code
def yX11_ranked : MethodName := ⟨"UrnHeap", "ranked", "(I)I"⟩
abbrev cX11_append : ByteArray := prog_1_method_26_code
def yX11_append : MethodName := ⟨"UrnHeap", "append", "(I)I"⟩
abbrev cX11_run : ByteArray := prog_1_method_27_code
def yX11_run : MethodName := ⟨"UrnHeap", "run", "()I"⟩
abbrev cX11_tell : ByteArray := prog_1_method_28_code
def yX11_tell : MethodName := ⟨"UrnHeap", "tell", "(I)I"⟩
abbrev cX11_tellHeap : ByteArray := prog_1_method_29_code
def yX11_tellHeap : MethodName := ⟨"UrnHeap", "tellHeap", "()I"⟩
abbrev cX11_character : ByteArray := prog_1_method_30_code
def yX11_character : MethodName := ⟨"UrnHeap", "character", "(I)I"⟩
abbrev cX11_reason : ByteArray := prog_1_method_31_code
def yX11_reason : MethodName := ⟨"UrnHeap", "reason", "(Z)I"⟩
abbrev cX11_account : ByteArray := prog_1_method_32_code
def yX11_account : MethodName := ⟨"UrnHeap", "account", "(I)I"⟩
abbrev cX11_isBalanced : ByteArray := prog_1_method_33_code
def yX11_isBalanced : MethodName := ⟨"UrnHeap", "isBalanced", "()I"⟩
abbrev cX11_meanHeld : ByteArray := prog_1_method_34_code
def yX11_meanHeld : MethodName := ⟨"UrnHeap", "meanHeld", "()D"⟩
abbrev cX11_liveShare : ByteArray := prog_1_method_35_code
def yX11_liveShare : MethodName := ⟨"UrnHeap", "liveShare", "()F"⟩
abbrev cX11_undo : ByteArray := prog_1_method_36_code
def yX11_undo : MethodName := ⟨"UrnHeap", "undo", "()I"⟩
abbrev cX11_save : ByteArray := prog_1_method_37_code
def yX11_save : MethodName := ⟨"UrnHeap", "save", "()I"⟩
abbrev cX11_restore : ByteArray := prog_1_method_38_code
def yX11_restore : MethodName := ⟨"UrnHeap", "restore", "()I"⟩
abbrev cX11_carryOut : ByteArray := prog_1_method_39_code
def yX11_carryOut : MethodName := ⟨"UrnHeap", "carryOut", "(I)I"⟩
abbrev cX11_isCell : ByteArray := prog_1_method_40_code
def yX11_isCell : MethodName := ⟨"UrnHeap", "isCell", "(I)Z"⟩
abbrev cX11_isSlot : ByteArray := prog_1_method_41_code
def yX11_isSlot : MethodName := ⟨"UrnHeap", "isSlot", "(I)Z"⟩
abbrev cX11_isName : ByteArray := prog_1_method_42_code
def yX11_isName : MethodName := ⟨"UrnHeap", "isName", "(I)Z"⟩
def RX12 : String := "UrnHeapModel"
def TX12 : u_T := fun k => match k with
  | 0 => ("UrnHeapModel", "s", "[I", true)
  | 1 => ("UrnHeapModel", "frame", "[I", true)
  | 2 => ("UrnHeapModel", "saved", "[I", true)
  | 3 => ("UrnHeapModel", "history", "[I", true)
  | 4 => ("UrnHeapModel", "kept", "I", false)
  | 5 => ("UrnHeapModel", "hasSaved", "Z", false)
  | 6 => ("UrnHeapModel", "text", "[I", true)
  | 7 => ("UrnHeapModel", "told", "[I", true)
  | 8 => ("UrnHeapModel", "line", "[I", true)
  | 9 => ("UrnHeapModel", "far", "[I", true)
  | 10 => ("UrnHeapModel", "length", "I", false)
  | 11 => ("UrnHeapModel", "lineLength", "I", false)
  | 12 => ("UrnHeapModel", "why", "I", false)
  | 13 => ("UrnHeapModel", "detail", "I", false)
  | 14 => ("UrnHeapModel", "about", "I", false)
  | 15 => ("UrnHeapModel", "answer", "I", false)
  | 16 => ("UrnHeapModel", "spot", "I", false)
  | 17 => ("UrnHeapModel", "end", "I", false)
  | 18 => ("UrnHeapModel", "orders", "I", false)
  | _ => ("UrnHeapModel", "isWrong", "Z", false)
def tyX12 : Nat → FieldType := fun k => match k with
  | 0 => .array .int
  | 1 => .array .int
  | 2 => .array .int
  | 3 => .array .int
  | 4 => .int
  | 5 => .boolean
  | 6 => .array .int
  | 7 => .array .int
  | 8 => .array .int
  | 9 => .array .int
  | 10 => .int
  | 11 => .int
  | 12 => .int
  | 13 => .int
  | 14 => .int
  | 15 => .int
  | 16 => .int
  | 17 => .int
  | 18 => .int
  | _ => .boolean
abbrev wsX120 : List Cond := u_ws "UrnHeapModel" TX12 20
theorem nmX12 : ∀ a, a < 20 → ∀ b, b < 20 → a ≠ b → (TX12 a).2.1 ≠ (TX12 b).2.1 := by decide +kernel
theorem tyX12_ok : ∀ k, k < 20 → parseFieldDescriptor (TX12 k).2.2.1 = some (tyX12 k) := by decide +kernel
abbrev cX12_init : ByteArray := prog_14_method_1_code
def yX12_init : MethodName := ⟨"UrnHeapModel", "<init>", "()V"⟩
abbrev cX12_in : ByteArray := prog_14_method_2_code
def yX12_in : MethodName := ⟨"UrnHeapModel", "in", "(III)Z"⟩
abbrev cX12_remembers : ByteArray := prog_14_method_3_code
def yX12_remembers : MethodName := ⟨"UrnHeapModel", "remembers", "()V"⟩
abbrev cX12_changed : ByteArray := prog_14_method_4_code
def yX12_changed : MethodName := ⟨"UrnHeapModel", "changed", "(I)I"⟩
abbrev cX12_refused : ByteArray := prog_14_method_5_code
def yX12_refused : MethodName := ⟨"UrnHeapModel", "refused", "(II)I"⟩
abbrev cX12_done : ByteArray := prog_14_method_6_code
def yX12_done : MethodName := ⟨"UrnHeapModel", "done", "(I)I"⟩
abbrev cX12_ends : ByteArray := prog_14_method_7_code
def yX12_ends : MethodName := ⟨"UrnHeapModel", "ends", "(I)I"⟩
abbrev cX12_isUrn : ByteArray := prog_14_method_8_code
def yX12_isUrn : MethodName := ⟨"UrnHeapModel", "isUrn", "(I)Z"⟩
abbrev cX12_at : ByteArray := prog_14_method_9_code
def yX12_at : MethodName := ⟨"UrnHeapModel", "at", "(II)I"⟩
abbrev cX12_empties : ByteArray := prog_14_method_10_code
def yX12_empties : MethodName := ⟨"UrnHeapModel", "empties", "(I)V"⟩
abbrev cX12_isDoomed : ByteArray := prog_14_method_11_code
def yX12_isDoomed : MethodName := ⟨"UrnHeapModel", "isDoomed", "(I)Z"⟩
abbrev cX12_greys : ByteArray := prog_14_method_12_code
def yX12_greys : MethodName := ⟨"UrnHeapModel", "greys", "(I)V"⟩
abbrev cX12_greysIfWhite : ByteArray := prog_14_method_13_code
def yX12_greysIfWhite : MethodName := ⟨"UrnHeapModel", "greysIfWhite", "(I)V"⟩
abbrev cX12_beginsRound : ByteArray := prog_14_method_14_code
def yX12_beginsRound : MethodName := ⟨"UrnHeapModel", "beginsRound", "()I"⟩
abbrev cX12_blackens : ByteArray := prog_14_method_15_code
def yX12_blackens : MethodName := ⟨"UrnHeapModel", "blackens", "()V"⟩
abbrev cX12_becomeDue : ByteArray := prog_14_method_16_code
def yX12_becomeDue : MethodName := ⟨"UrnHeapModel", "becomeDue", "()Z"⟩
abbrev cX12_cutsWeak : ByteArray := prog_14_method_17_code
def yX12_cutsWeak : MethodName := ⟨"UrnHeapModel", "cutsWeak", "()V"⟩
abbrev cX12_frees : ByteArray := prog_14_method_18_code
def yX12_frees : MethodName := ⟨"UrnHeapModel", "frees", "(I)V"⟩
abbrev cX12_sweeps : ByteArray := prog_14_method_19_code
def yX12_sweeps : MethodName := ⟨"UrnHeapModel", "sweeps", "()V"⟩
abbrev cX12_part : ByteArray := prog_14_method_20_code
def yX12_part : MethodName := ⟨"UrnHeapModel", "part", "()V"⟩
abbrev cX12_partsOn : ByteArray := prog_14_method_21_code
def yX12_partsOn : MethodName := ⟨"UrnHeapModel", "partsOn", "(I)I"⟩
abbrev cX12_makes : ByteArray := prog_14_method_22_code
def yX12_makes : MethodName := ⟨"UrnHeapModel", "makes", "(Z)I"⟩
abbrev cX12_ties : ByteArray := prog_14_method_23_code
def yX12_ties : MethodName := ⟨"UrnHeapModel", "ties", "(III)I"⟩
abbrev cX12_unties : ByteArray := prog_14_method_24_code
def yX12_unties : MethodName := ⟨"UrnHeapModel", "unties", "(II)I"⟩
abbrev cX12_weakens : ByteArray := prog_14_method_25_code
def yX12_weakens : MethodName := ⟨"UrnHeapModel", "weakens", "(II)I"⟩
abbrev cX12_names : ByteArray := prog_14_method_26_code
def yX12_names : MethodName := ⟨"UrnHeapModel", "names", "(II)I"⟩
abbrev cX12_drops : ByteArray := prog_14_method_27_code
def yX12_drops : MethodName := ⟨"UrnHeapModel", "drops", "(I)I"⟩
abbrev cX12_stepsOn : ByteArray := prog_14_method_28_code
def yX12_stepsOn : MethodName := ⟨"UrnHeapModel", "stepsOn", "(I)I"⟩
abbrev cX12_wholeRound : ByteArray := prog_14_method_29_code
def yX12_wholeRound : MethodName := ⟨"UrnHeapModel", "wholeRound", "()I"⟩
abbrev cX12_doesRite : ByteArray := prog_14_method_30_code
def yX12_doesRite : MethodName := ⟨"UrnHeapModel", "doesRite", "()I"⟩
abbrev cX12_urn : ByteArray := prog_14_method_31_code
def yX12_urn : MethodName := ⟨"UrnHeapModel", "urn", "(Z)I"⟩
abbrev cX12_tie : ByteArray := prog_14_method_32_code
def yX12_tie : MethodName := ⟨"UrnHeapModel", "tie", "(III)I"⟩
abbrev cX12_untie : ByteArray := prog_14_method_33_code
def yX12_untie : MethodName := ⟨"UrnHeapModel", "untie", "(II)I"⟩
abbrev cX12_weak : ByteArray := prog_14_method_34_code
def yX12_weak : MethodName := ⟨"UrnHeapModel", "weak", "(II)I"⟩
abbrev cX12_unweak : ByteArray := prog_14_method_35_code
def yX12_unweak : MethodName := ⟨"UrnHeapModel", "unweak", "(I)I"⟩
abbrev cX12_name : ByteArray := prog_14_method_36_code
def yX12_name : MethodName := ⟨"UrnHeapModel", "name", "(II)I"⟩
abbrev cX12_drop : ByteArray := prog_14_method_37_code
def yX12_drop : MethodName := ⟨"UrnHeapModel", "drop", "(I)I"⟩
abbrev cX12_holds : ByteArray := prog_14_method_38_code
def yX12_holds : MethodName := ⟨"UrnHeapModel", "holds", "(I)I"⟩
abbrev cX12_held : ByteArray := prog_14_method_39_code
def yX12_held : MethodName := ⟨"UrnHeapModel", "held", "(I)I"⟩
abbrev cX12_urnOf : ByteArray := prog_14_method_40_code
def yX12_urnOf : MethodName := ⟨"UrnHeapModel", "urnOf", "(II)I"⟩
abbrev cX12_threadOf : ByteArray := prog_14_method_41_code
def yX12_threadOf : MethodName := ⟨"UrnHeapModel", "threadOf", "(II)I"⟩
abbrev cX12_named : ByteArray := prog_14_method_42_code
def yX12_named : MethodName := ⟨"UrnHeapModel", "named", "(I)I"⟩
abbrev cX12_begin : ByteArray := prog_14_method_43_code
def yX12_begin : MethodName := ⟨"UrnHeapModel", "begin", "()I"⟩
abbrev cX12_step : ByteArray := prog_14_method_44_code
def yX12_step : MethodName := ⟨"UrnHeapModel", "step", "(I)I"⟩
abbrev cX12_round : ByteArray := prog_14_method_45_code
def yX12_round : MethodName := ⟨"UrnHeapModel", "round", "()I"⟩
abbrev cX12_rite : ByteArray := prog_14_method_46_code
def yX12_rite : MethodName := ⟨"UrnHeapModel", "rite", "()I"⟩
abbrev cX12_due : ByteArray := prog_14_method_47_code
def yX12_due : MethodName := ⟨"UrnHeapModel", "due", "(I)I"⟩
abbrev cX12_grey : ByteArray := prog_14_method_48_code
def yX12_grey : MethodName := ⟨"UrnHeapModel", "grey", "(I)I"⟩
abbrev cX12_freed : ByteArray := prog_14_method_49_code
def yX12_freed : MethodName := ⟨"UrnHeapModel", "freed", "(I)I"⟩
abbrev cX12_nears : ByteArray := prog_14_method_50_code
def yX12_nears : MethodName := ⟨"UrnHeapModel", "nears", "(II)V"⟩
abbrev cX12_measures : ByteArray := prog_14_method_51_code
def yX12_measures : MethodName := ⟨"UrnHeapModel", "measures", "(IZ)V"⟩
abbrev cX12_reached : ByteArray := prog_14_method_52_code
def yX12_reached : MethodName := ⟨"UrnHeapModel", "reached", "()I"⟩
abbrev cX12_live : ByteArray := prog_14_method_53_code
def yX12_live : MethodName := ⟨"UrnHeapModel", "live", "()I"⟩
abbrev cX12_liveAgain : ByteArray := prog_14_method_54_code
def yX12_liveAgain : MethodName := ⟨"UrnHeapModel", "liveAgain", "()I"⟩
abbrev cX12_depth : ByteArray := prog_14_method_55_code
def yX12_depth : MethodName := ⟨"UrnHeapModel", "depth", "(I)I"⟩
abbrev cX12_keepers : ByteArray := prog_14_method_56_code
def yX12_keepers : MethodName := ⟨"UrnHeapModel", "keepers", "(I)I"⟩
abbrev cX12_ring : ByteArray := prog_14_method_57_code
def yX12_ring : MethodName := ⟨"UrnHeapModel", "ring", "(I)I"⟩
abbrev cX12_urns : ByteArray := prog_14_method_58_code
def yX12_urns : MethodName := ⟨"UrnHeapModel", "urns", "()I"⟩
abbrev cX12_wouldFree : ByteArray := prog_14_method_59_code
def yX12_wouldFree : MethodName := ⟨"UrnHeapModel", "wouldFree", "()I"⟩
abbrev cX12_isAhead : ByteArray := prog_14_method_60_code
def yX12_isAhead : MethodName := ⟨"UrnHeapModel", "isAhead", "(II)Z"⟩
abbrev cX12_ranked : ByteArray := prog_14_method_61_code
def yX12_ranked : MethodName := ⟨"UrnHeapModel", "ranked", "(I)I"⟩
abbrev cX12_append : ByteArray := prog_14_method_62_code
def yX12_append : MethodName := ⟨"UrnHeapModel", "append", "(I)I"⟩
abbrev cX12_here : ByteArray := prog_14_method_63_code
def yX12_here : MethodName := ⟨"UrnHeapModel", "here", "()I"⟩
abbrev cX12_next : ByteArray := prog_14_method_64_code
def yX12_next : MethodName := ⟨"UrnHeapModel", "next", "()I"⟩
abbrev cX12_word : ByteArray := prog_14_method_65_code
def yX12_word : MethodName := ⟨"UrnHeapModel", "word", "(Ljava/lang/String;)V"⟩
abbrev cX12_tells : ByteArray := prog_14_method_66_code
def yX12_tells : MethodName := ⟨"UrnHeapModel", "tells", "(II)V"⟩
abbrev cX12_number : ByteArray := prog_14_method_67_code
def yX12_number : MethodName := ⟨"UrnHeapModel", "number", "(II)V"⟩
abbrev cX12_letter : ByteArray := prog_14_method_68_code
def yX12_letter : MethodName := ⟨"UrnHeapModel", "letter", "(I)V"⟩
abbrev cX12_slotOf : ByteArray := prog_14_method_69_code
def yX12_slotOf : MethodName := ⟨"UrnHeapModel", "slotOf", "(Ljava/lang/String;)V"⟩
abbrev cX12_readsOne : ByteArray := prog_14_method_70_code
def yX12_readsOne : MethodName := ⟨"UrnHeapModel", "readsOne", "()V"⟩
abbrev cX12_does : ByteArray := prog_14_method_71_code
def yX12_does : MethodName := ⟨"UrnHeapModel", "does", "(I)I"⟩
abbrev cX12_run : ByteArray := prog_14_method_72_code
def yX12_run : MethodName := ⟨"UrnHeapModel", "run", "()I"⟩
abbrev cX12_writes : ByteArray := prog_14_method_73_code
def yX12_writes : MethodName := ⟨"UrnHeapModel", "writes", "(I)V"⟩
abbrev cX12_writesNumber : ByteArray := prog_14_method_74_code
def yX12_writesNumber : MethodName := ⟨"UrnHeapModel", "writesNumber", "(I)V"⟩
abbrev cX12_tell : ByteArray := prog_14_method_75_code
def yX12_tell : MethodName := ⟨"UrnHeapModel", "tell", "(I)I"⟩
abbrev cX12_tellHeap : ByteArray := prog_14_method_76_code
def yX12_tellHeap : MethodName := ⟨"UrnHeapModel", "tellHeap", "()I"⟩
abbrev cX12_character : ByteArray := prog_14_method_77_code
def yX12_character : MethodName := ⟨"UrnHeapModel", "character", "(I)I"⟩
abbrev cX12_reason : ByteArray := prog_14_method_78_code
def yX12_reason : MethodName := ⟨"UrnHeapModel", "reason", "(Z)I"⟩
abbrev cX12_manyUrns : ByteArray := prog_14_method_79_code
def yX12_manyUrns : MethodName := ⟨"UrnHeapModel", "manyUrns", "()I"⟩
abbrev cX12_manyThat : ByteArray := prog_14_method_80_code
def yX12_manyThat : MethodName := ⟨"UrnHeapModel", "manyThat", "(I)I"⟩
abbrev cX12_namesUsed : ByteArray := prog_14_method_81_code
def yX12_namesUsed : MethodName := ⟨"UrnHeapModel", "namesUsed", "()I"⟩
abbrev cX12_account : ByteArray := prog_14_method_82_code
def yX12_account : MethodName := ⟨"UrnHeapModel", "account", "(I)I"⟩
abbrev cX12_isThere : ByteArray := prog_14_method_83_code
def yX12_isThere : MethodName := ⟨"UrnHeapModel", "isThere", "(I)Z"⟩
abbrev cX12_isFit : ByteArray := prog_14_method_84_code
def yX12_isFit : MethodName := ⟨"UrnHeapModel", "isFit", "(I)Z"⟩
abbrev cX12_isBalanced : ByteArray := prog_14_method_85_code
def yX12_isBalanced : MethodName := ⟨"UrnHeapModel", "isBalanced", "()I"⟩
abbrev cX12_meanHeld : ByteArray := prog_14_method_86_code
def yX12_meanHeld : MethodName := ⟨"UrnHeapModel", "meanHeld", "()D"⟩
abbrev cX12_liveShare : ByteArray := prog_14_method_87_code
def yX12_liveShare : MethodName := ⟨"UrnHeapModel", "liveShare", "()F"⟩
abbrev cX12_undo : ByteArray := prog_14_method_88_code
def yX12_undo : MethodName := ⟨"UrnHeapModel", "undo", "()I"⟩
abbrev cX12_save : ByteArray := prog_14_method_89_code
def yX12_save : MethodName := ⟨"UrnHeapModel", "save", "()I"⟩
abbrev cX12_restore : ByteArray := prog_14_method_90_code
def yX12_restore : MethodName := ⟨"UrnHeapModel", "restore", "()I"⟩
def RJx145de : String := "java/io/Serializable"
def TJx145de : u_T := fun k => match k with
  | _ => ("", "", "", false)
def tyJx145de : Nat → FieldType := fun k => match k with
  | _ => .int
abbrev wsJx145de0 : List Cond := u_ws "java/io/Serializable" TJx145de 0
theorem nmJx145de : ∀ a, a < 0 → ∀ b, b < 0 → a ≠ b → (TJx145de a).2.1 ≠ (TJx145de b).2.1 := by decide +kernel
theorem tyJx145de_ok : ∀ k, k < 0 → parseFieldDescriptor (TJx145de k).2.2.1 = some (tyJx145de k) := by decide +kernel
def RJ5 : String := "java/lang/AbstractStringBuilder"
def TJ5 : u_T := fun k => match k with
  | _ => ("", "", "", false)
def tyJ5 : Nat → FieldType := fun k => match k with
  | _ => .int
abbrev wsJ50 : List Cond := u_ws "java/lang/AbstractStringBuilder" TJ5 0
theorem nmJ5 : ∀ a, a < 0 → ∀ b, b < 0 → a ≠ b → (TJ5 a).2.1 ≠ (TJ5 b).2.1 := by decide +kernel
theorem tyJ5_ok : ∀ k, k < 0 → parseFieldDescriptor (TJ5 k).2.2.1 = some (tyJ5 k) := by decide +kernel
abbrev cJ5_init_d00df : ByteArray := prog_15_method_2_code
def yJ5_init_d00df : MethodName := ⟨"java/lang/AbstractStringBuilder", "<init>", "(I)V"⟩
abbrev cJ5_length_8abf5 : ByteArray := prog_15_method_6_code
def yJ5_length_8abf5 : MethodName := ⟨"java/lang/AbstractStringBuilder", "length", "()I"⟩
abbrev cJ5_ensureCapacityInternal_d00df : ByteArray := prog_15_method_9_code
def yJ5_ensureCapacityInternal_d00df : MethodName := ⟨"java/lang/AbstractStringBuilder", "ensureCapacityInternal", "(I)V"⟩
abbrev cJ5_newCapacity_0f7a4 : ByteArray := prog_15_method_10_code
def yJ5_newCapacity_0f7a4 : MethodName := ⟨"java/lang/AbstractStringBuilder", "newCapacity", "(I)I"⟩
abbrev cJ5_inflate_da8c8 : ByteArray := prog_15_method_11_code
def yJ5_inflate_da8c8 : MethodName := ⟨"java/lang/AbstractStringBuilder", "inflate", "()V"⟩
abbrev cJ5_setLength_d00df : ByteArray := prog_15_method_13_code
def yJ5_setLength_d00df : MethodName := ⟨"java/lang/AbstractStringBuilder", "setLength", "(I)V"⟩
abbrev cJ5_charAt_5068e : ByteArray := prog_15_method_14_code
def yJ5_charAt_5068e : MethodName := ⟨"java/lang/AbstractStringBuilder", "charAt", "(I)C"⟩
abbrev cJ5_append_3fe6f : ByteArray := prog_15_method_31_code
def yJ5_append_3fe6f : MethodName := ⟨"java/lang/AbstractStringBuilder", "append", "(C)Ljava/lang/AbstractStringBuilder;"⟩
abbrev cJ5_append_c97b9 : ByteArray := prog_15_method_32_code
def yJ5_append_c97b9 : MethodName := ⟨"java/lang/AbstractStringBuilder", "append", "(I)Ljava/lang/AbstractStringBuilder;"⟩
abbrev cJ5_isLatin1_aae02 : ByteArray := prog_15_method_68_code
def yJ5_isLatin1_aae02 : MethodName := ⟨"java/lang/AbstractStringBuilder", "isLatin1", "()Z"⟩
def RJx2cfe8 : String := "java/lang/Appendable"
def TJx2cfe8 : u_T := fun k => match k with
  | _ => ("", "", "", false)
def tyJx2cfe8 : Nat → FieldType := fun k => match k with
  | _ => .int
abbrev wsJx2cfe80 : List Cond := u_ws "java/lang/Appendable" TJx2cfe8 0
theorem nmJx2cfe8 : ∀ a, a < 0 → ∀ b, b < 0 → a ≠ b → (TJx2cfe8 a).2.1 ≠ (TJx2cfe8 b).2.1 := by decide +kernel
theorem tyJx2cfe8_ok : ∀ k, k < 0 → parseFieldDescriptor (TJx2cfe8 k).2.2.1 = some (tyJx2cfe8 k) := by decide +kernel
def RJx9f9b0 : String := "java/lang/CharSequence"
def TJx9f9b0 : u_T := fun k => match k with
  | _ => ("", "", "", false)
def tyJx9f9b0 : Nat → FieldType := fun k => match k with
  | _ => .int
abbrev wsJx9f9b00 : List Cond := u_ws "java/lang/CharSequence" TJx9f9b0 0
theorem nmJx9f9b0 : ∀ a, a < 0 → ∀ b, b < 0 → a ≠ b → (TJx9f9b0 a).2.1 ≠ (TJx9f9b0 b).2.1 := by decide +kernel
theorem tyJx9f9b0_ok : ∀ k, k < 0 → parseFieldDescriptor (TJx9f9b0 k).2.2.1 = some (tyJx9f9b0 k) := by decide +kernel
def RJx8e188 : String := "java/lang/Cloneable"
def TJx8e188 : u_T := fun k => match k with
  | _ => ("", "", "", false)
def tyJx8e188 : Nat → FieldType := fun k => match k with
  | _ => .int
abbrev wsJx8e1880 : List Cond := u_ws "java/lang/Cloneable" TJx8e188 0
theorem nmJx8e188 : ∀ a, a < 0 → ∀ b, b < 0 → a ≠ b → (TJx8e188 a).2.1 ≠ (TJx8e188 b).2.1 := by decide +kernel
theorem tyJx8e188_ok : ∀ k, k < 0 → parseFieldDescriptor (TJx8e188 k).2.2.1 = some (tyJx8e188 k) := by decide +kernel
def RJxb160c : String := "java/lang/Comparable"
def TJxb160c : u_T := fun k => match k with
  | _ => ("", "", "", false)
def tyJxb160c : Nat → FieldType := fun k => match k with
  | _ => .int
abbrev wsJxb160c0 : List Cond := u_ws "java/lang/Comparable" TJxb160c 0
theorem nmJxb160c : ∀ a, a < 0 → ∀ b, b < 0 → a ≠ b → (TJxb160c a).2.1 ≠ (TJxb160c b).2.1 := by decide +kernel
theorem tyJxb160c_ok : ∀ k, k < 0 → parseFieldDescriptor (TJxb160c k).2.2.1 = some (tyJxb160c k) := by decide +kernel
def RJx29ce0 : String := "java/lang/Enum"
def TJx29ce0 : u_T := fun k => match k with
  | _ => ("", "", "", false)
def tyJx29ce0 : Nat → FieldType := fun k => match k with
  | _ => .int
abbrev wsJx29ce00 : List Cond := u_ws "java/lang/Enum" TJx29ce0 0
theorem nmJx29ce0 : ∀ a, a < 0 → ∀ b, b < 0 → a ≠ b → (TJx29ce0 a).2.1 ≠ (TJx29ce0 b).2.1 := by decide +kernel
theorem tyJx29ce0_ok : ∀ k, k < 0 → parseFieldDescriptor (TJx29ce0 k).2.2.1 = some (tyJx29ce0 k) := by decide +kernel
abbrev cJx29ce0_ordinal_8abf5 : ByteArray := prog_17_method_2_code
def yJx29ce0_ordinal_8abf5 : MethodName := ⟨"java/lang/Enum", "ordinal", "()I"⟩
def RJ6 : String := "java/lang/Integer"
def TJ6 : u_T := fun k => match k with
  | _ => ("", "", "", false)
def tyJ6 : Nat → FieldType := fun k => match k with
  | _ => .int
abbrev wsJ60 : List Cond := u_ws "java/lang/Integer" TJ6 0
theorem nmJ6 : ∀ a, a < 0 → ∀ b, b < 0 → a ≠ b → (TJ6 a).2.1 ≠ (TJ6 b).2.1 := by decide +kernel
theorem tyJ6_ok : ∀ k, k < 0 → parseFieldDescriptor (TJ6 k).2.2.1 = some (tyJ6 k) := by decide +kernel
abbrev cJ6_getChars_ba4f3 : ByteArray := prog_18_method_12_code
def yJ6_getChars_ba4f3 : MethodName := ⟨"java/lang/Integer", "getChars", "(II[B)I"⟩
abbrev cJ6_stringSize_0f7a4 : ByteArray := prog_18_method_13_code
def yJ6_stringSize_0f7a4 : MethodName := ⟨"java/lang/Integer", "stringSize", "(I)I"⟩
abbrev cJ6_bitCount_0f7a4 : ByteArray := prog_18_method_49_code
def yJ6_bitCount_0f7a4 : MethodName := ⟨"java/lang/Integer", "bitCount", "(I)I"⟩
def RJ9 : String := "java/lang/Math"
def TJ9 : u_T := fun k => match k with
  | _ => ("", "", "", false)
def tyJ9 : Nat → FieldType := fun k => match k with
  | _ => .int
abbrev wsJ90 : List Cond := u_ws "java/lang/Math" TJ9 0
theorem nmJ9 : ∀ a, a < 0 → ∀ b, b < 0 → a ≠ b → (TJ9 a).2.1 ≠ (TJ9 b).2.1 := by decide +kernel
theorem tyJ9_ok : ∀ k, k < 0 → parseFieldDescriptor (TJ9 k).2.2.1 = some (tyJ9 k) := by decide +kernel
abbrev cJ9_max_7cf53 : ByteArray := prog_19_method_65_code
def yJ9_max_7cf53 : MethodName := ⟨"java/lang/Math", "max", "(II)I"⟩
abbrev cJ9_min_7cf53 : ByteArray := prog_19_method_69_code
def yJ9_min_7cf53 : MethodName := ⟨"java/lang/Math", "min", "(II)I"⟩
def RJxd2413 : String := "java/lang/Number"
def TJxd2413 : u_T := fun k => match k with
  | _ => ("", "", "", false)
def tyJxd2413 : Nat → FieldType := fun k => match k with
  | _ => .int
abbrev wsJxd24130 : List Cond := u_ws "java/lang/Number" TJxd2413 0
theorem nmJxd2413 : ∀ a, a < 0 → ∀ b, b < 0 → a ≠ b → (TJxd2413 a).2.1 ≠ (TJxd2413 b).2.1 := by decide +kernel
theorem tyJxd2413_ok : ∀ k, k < 0 → parseFieldDescriptor (TJxd2413 k).2.2.1 = some (tyJxd2413 k) := by decide +kernel
def RJ0 : String := "java/lang/String"
def TJ0 : u_T := fun k => match k with
  | _ => ("", "", "", false)
def tyJ0 : Nat → FieldType := fun k => match k with
  | _ => .int
abbrev wsJ00 : List Cond := u_ws "java/lang/String" TJ0 0
theorem nmJ0 : ∀ a, a < 0 → ∀ b, b < 0 → a ≠ b → (TJ0 a).2.1 ≠ (TJ0 b).2.1 := by decide +kernel
theorem tyJ0_ok : ∀ k, k < 0 → parseFieldDescriptor (TJ0 k).2.2.1 = some (tyJ0 k) := by decide +kernel
abbrev cJ0_length_8abf5 : ByteArray := prog_21_method_54_code
def yJ0_length_8abf5 : MethodName := ⟨"java/lang/String", "length", "()I"⟩
abbrev cJ0_charAt_5068e : ByteArray := prog_21_method_56_code
def yJ0_charAt_5068e : MethodName := ⟨"java/lang/String", "charAt", "(I)C"⟩
abbrev cJ0_coder_7d493 : ByteArray := prog_21_method_152_code
def yJ0_coder_7d493 : MethodName := ⟨"java/lang/String", "coder", "()B"⟩
abbrev cJ0_isLatin1_aae02 : ByteArray := prog_21_method_154_code
def yJ0_isLatin1_aae02 : MethodName := ⟨"java/lang/String", "isLatin1", "()Z"⟩
abbrev cJ0_checkIndex_df160 : ByteArray := prog_21_method_155_code
def yJ0_checkIndex_df160 : MethodName := ⟨"java/lang/String", "checkIndex", "(II)V"⟩
abbrev cJ0_checkBoundsOffCount_cabcc : ByteArray := prog_21_method_157_code
def yJ0_checkBoundsOffCount_cabcc : MethodName := ⟨"java/lang/String", "checkBoundsOffCount", "(III)I"⟩
abbrev cJ0_checkBoundsBeginEnd_23922 : ByteArray := prog_21_method_158_code
def yJ0_checkBoundsBeginEnd_23922 : MethodName := ⟨"java/lang/String", "checkBoundsBeginEnd", "(III)V"⟩
def RJ4 : String := "java/lang/StringBuilder"
def TJ4 : u_T := fun k => match k with
  | 0 => ("java/lang/AbstractStringBuilder", "value", "[B", false)
  | 1 => ("java/lang/AbstractStringBuilder", "coder", "B", false)
  | 2 => ("java/lang/AbstractStringBuilder", "maybeLatin1", "Z", false)
  | _ => ("java/lang/AbstractStringBuilder", "count", "I", false)
def tyJ4 : Nat → FieldType := fun k => match k with
  | 0 => .array .byte
  | 1 => .byte
  | 2 => .boolean
  | _ => .int
abbrev wsJ40 : List Cond := u_ws "java/lang/StringBuilder" TJ4 4
theorem nmJ4 : ∀ a, a < 4 → ∀ b, b < 4 → a ≠ b → (TJ4 a).2.1 ≠ (TJ4 b).2.1 := by decide +kernel
theorem tyJ4_ok : ∀ k, k < 4 → parseFieldDescriptor (TJ4 k).2.2.1 = some (tyJ4 k) := by decide +kernel
abbrev cJ4_init_da8c8 : ByteArray := prog_22_method_1_code
def yJ4_init_da8c8 : MethodName := ⟨"java/lang/StringBuilder", "<init>", "()V"⟩
abbrev cJ4_append_cf468 : ByteArray := prog_22_method_14_code
def yJ4_append_cf468 : MethodName := ⟨"java/lang/StringBuilder", "append", "(C)Ljava/lang/StringBuilder;"⟩
abbrev cJ4_append_bf812 : ByteArray := prog_22_method_15_code
def yJ4_append_bf812 : MethodName := ⟨"java/lang/StringBuilder", "append", "(I)Ljava/lang/StringBuilder;"⟩
abbrev cJ4_charAt_5068e : ByteArray := prog_22_method_88_code
def yJ4_charAt_5068e : MethodName := ⟨"java/lang/StringBuilder", "charAt", "(I)C"⟩
abbrev cJ4_setLength_d00df : ByteArray := prog_22_method_89_code
def yJ4_setLength_d00df : MethodName := ⟨"java/lang/StringBuilder", "setLength", "(I)V"⟩
abbrev cJ4_length_8abf5 : ByteArray := prog_22_method_93_code
def yJ4_length_8abf5 : MethodName := ⟨"java/lang/StringBuilder", "length", "()I"⟩
def RJ1 : String := "java/lang/StringLatin1"
def TJ1 : u_T := fun k => match k with
  | _ => ("", "", "", false)
def tyJ1 : Nat → FieldType := fun k => match k with
  | _ => .int
abbrev wsJ10 : List Cond := u_ws "java/lang/StringLatin1" TJ1 0
theorem nmJ1 : ∀ a, a < 0 → ∀ b, b < 0 → a ≠ b → (TJ1 a).2.1 ≠ (TJ1 b).2.1 := by decide +kernel
theorem tyJ1_ok : ∀ k, k < 0 → parseFieldDescriptor (TJ1 k).2.2.1 = some (tyJ1 k) := by decide +kernel
abbrev cJ1_charAt_3b067 : ByteArray := prog_23_method_2_code
def yJ1_charAt_3b067 : MethodName := ⟨"java/lang/StringLatin1", "charAt", "([BI)C"⟩
abbrev cJ1_canEncode_fc78d : ByteArray := prog_23_method_3_code
def yJ1_canEncode_fc78d : MethodName := ⟨"java/lang/StringLatin1", "canEncode", "(C)Z"⟩
abbrev cJ1_fillNull_b72d1 : ByteArray := prog_23_method_48_code
def yJ1_fillNull_b72d1 : MethodName := ⟨"java/lang/StringLatin1", "fillNull", "([BII)V"⟩
abbrev cJ1_inflate_0e8fd : ByteArray := prog_23_method_50_code
def yJ1_inflate_0e8fd : MethodName := ⟨"java/lang/StringLatin1", "inflate", "([BI[BII)V"⟩
def RJ2 : String := "java/lang/StringUTF16"
def TJ2 : u_T := fun k => match k with
  | _ => ("", "", "", false)
def tyJ2 : Nat → FieldType := fun k => match k with
  | _ => .int
abbrev wsJ20 : List Cond := u_ws "java/lang/StringUTF16" TJ2 0
theorem nmJ2 : ∀ a, a < 0 → ∀ b, b < 0 → a ≠ b → (TJ2 a).2.1 ≠ (TJ2 b).2.1 := by decide +kernel
theorem tyJ2_ok : ∀ k, k < 0 → parseFieldDescriptor (TJ2 k).2.2.1 = some (tyJ2 k) := by decide +kernel
abbrev cJ2_newBytesFor_77867 : ByteArray := prog_24_method_2_code
def yJ2_newBytesFor_77867 : MethodName := ⟨"java/lang/StringUTF16", "newBytesFor", "(I)[B"⟩
abbrev cJ2_newBytesLength_0f7a4 : ByteArray := prog_24_method_3_code
def yJ2_newBytesLength_0f7a4 : MethodName := ⟨"java/lang/StringUTF16", "newBytesLength", "(I)I"⟩
abbrev cJ2_putChar_b72d1 : ByteArray := prog_24_method_4_code
def yJ2_putChar_b72d1 : MethodName := ⟨"java/lang/StringUTF16", "putChar", "([BII)V"⟩
abbrev cJ2_getChar_3b067 : ByteArray := prog_24_method_5_code
def yJ2_getChar_3b067 : MethodName := ⟨"java/lang/StringUTF16", "getChar", "([BI)C"⟩
abbrev cJ2_length_9d52b : ByteArray := prog_24_method_6_code
def yJ2_length_9d52b : MethodName := ⟨"java/lang/StringUTF16", "length", "([B)I"⟩
abbrev cJ2_fillNull_b72d1 : ByteArray := prog_24_method_70_code
def yJ2_fillNull_b72d1 : MethodName := ⟨"java/lang/StringUTF16", "fillNull", "([BII)V"⟩
abbrev cJ2_putCharSB_b72d1 : ByteArray := prog_24_method_71_code
def yJ2_putCharSB_b72d1 : MethodName := ⟨"java/lang/StringUTF16", "putCharSB", "([BII)V"⟩
abbrev cJ2_getChars_46870 : ByteArray := prog_24_method_77_code
def yJ2_getChars_46870 : MethodName := ⟨"java/lang/StringUTF16", "getChars", "(III[B)I"⟩
abbrev cJ2_charAt_3b067 : ByteArray := prog_24_method_83_code
def yJ2_charAt_3b067 : MethodName := ⟨"java/lang/StringUTF16", "charAt", "([BI)C"⟩
abbrev cJ2_inflate_0e8fd : ByteArray := prog_24_method_86_code
def yJ2_inflate_0e8fd : MethodName := ⟨"java/lang/StringUTF16", "inflate", "([BI[BII)V"⟩
abbrev cJ2_getChars_ba4f3 : ByteArray := prog_24_method_89_code
def yJ2_getChars_ba4f3 : MethodName := ⟨"java/lang/StringUTF16", "getChars", "(II[B)I"⟩
abbrev cJ2_checkIndex_2214a : ByteArray := prog_24_method_91_code
def yJ2_checkIndex_2214a : MethodName := ⟨"java/lang/StringUTF16", "checkIndex", "(I[B)V"⟩
abbrev cJ2_checkBoundsBeginEnd_d044e : ByteArray := prog_24_method_93_code
def yJ2_checkBoundsBeginEnd_d044e : MethodName := ⟨"java/lang/StringUTF16", "checkBoundsBeginEnd", "(II[B)V"⟩
abbrev cJ2_checkBoundsOffCount_d044e : ByteArray := prog_24_method_94_code
def yJ2_checkBoundsOffCount_d044e : MethodName := ⟨"java/lang/StringUTF16", "checkBoundsOffCount", "(II[B)V"⟩
def RJ10 : String := "java/lang/System"
def TJ10 : u_T := fun k => match k with
  | _ => ("", "", "", false)
def tyJ10 : Nat → FieldType := fun k => match k with
  | _ => .int
abbrev wsJ100 : List Cond := u_ws "java/lang/System" TJ10 0
theorem nmJ10 : ∀ a, a < 0 → ∀ b, b < 0 → a ≠ b → (TJ10 a).2.1 ≠ (TJ10 b).2.1 := by decide +kernel
theorem tyJ10_ok : ∀ k, k < 0 → parseFieldDescriptor (TJ10 k).2.2.1 = some (tyJ10 k) := by decide +kernel
def RJxfd54e : String := "java/lang/constant/Constable"
def TJxfd54e : u_T := fun k => match k with
  | _ => ("", "", "", false)
def tyJxfd54e : Nat → FieldType := fun k => match k with
  | _ => .int
abbrev wsJxfd54e0 : List Cond := u_ws "java/lang/constant/Constable" TJxfd54e 0
theorem nmJxfd54e : ∀ a, a < 0 → ∀ b, b < 0 → a ≠ b → (TJxfd54e a).2.1 ≠ (TJxfd54e b).2.1 := by decide +kernel
theorem tyJxfd54e_ok : ∀ k, k < 0 → parseFieldDescriptor (TJxfd54e k).2.2.1 = some (tyJxfd54e k) := by decide +kernel
def RJx3cf43 : String := "java/lang/constant/ConstantDesc"
def TJx3cf43 : u_T := fun k => match k with
  | _ => ("", "", "", false)
def tyJx3cf43 : Nat → FieldType := fun k => match k with
  | _ => .int
abbrev wsJx3cf430 : List Cond := u_ws "java/lang/constant/ConstantDesc" TJx3cf43 0
theorem nmJx3cf43 : ∀ a, a < 0 → ∀ b, b < 0 → a ≠ b → (TJx3cf43 a).2.1 ≠ (TJx3cf43 b).2.1 := by decide +kernel
theorem tyJx3cf43_ok : ∀ k, k < 0 → parseFieldDescriptor (TJx3cf43 k).2.2.1 = some (tyJx3cf43 k) := by decide +kernel
def RJ7 : String := "java/util/Arrays"
def TJ7 : u_T := fun k => match k with
  | _ => ("", "", "", false)
def tyJ7 : Nat → FieldType := fun k => match k with
  | _ => .int
abbrev wsJ70 : List Cond := u_ws "java/util/Arrays" TJ7 0
theorem nmJ7 : ∀ a, a < 0 → ∀ b, b < 0 → a ≠ b → (TJ7 a).2.1 ≠ (TJ7 b).2.1 := by decide +kernel
theorem tyJ7_ok : ∀ k, k < 0 → parseFieldDescriptor (TJ7 k).2.2.1 = some (tyJ7 k) := by decide +kernel
abbrev cJ7_rangeCheck_23922 : ByteArray := prog_26_method_30_code
def yJ7_rangeCheck_23922 : MethodName := ⟨"java/util/Arrays", "rangeCheck", "(III)V"⟩
abbrev cJ7_fill_53178 : ByteArray := prog_26_method_103_code
def yJ7_fill_53178 : MethodName := ⟨"java/util/Arrays", "fill", "([II)V"⟩
abbrev cJ7_fill_eb02e : ByteArray := prog_26_method_110_code
def yJ7_fill_eb02e : MethodName := ⟨"java/util/Arrays", "fill", "([BIIB)V"⟩
abbrev cJ7_copyOf_9075b : ByteArray := prog_26_method_121_code
def yJ7_copyOf_9075b : MethodName := ⟨"java/util/Arrays", "copyOf", "([BI)[B"⟩
def RJ8 : String := "jdk/internal/util/ArraysSupport"
def TJ8 : u_T := fun k => match k with
  | _ => ("", "", "", false)
def tyJ8 : Nat → FieldType := fun k => match k with
  | _ => .int
abbrev wsJ80 : List Cond := u_ws "jdk/internal/util/ArraysSupport" TJ8 0
theorem nmJ8 : ∀ a, a < 0 → ∀ b, b < 0 → a ≠ b → (TJ8 a).2.1 ≠ (TJ8 b).2.1 := by decide +kernel
theorem tyJ8_ok : ∀ k, k < 0 → parseFieldDescriptor (TJ8 k).2.2.1 = some (tyJ8 k) := by decide +kernel
abbrev cJ8_newLength_cabcc : ByteArray := prog_27_method_27_code
def yJ8_newLength_cabcc : MethodName := ⟨"jdk/internal/util/ArraysSupport", "newLength", "(III)I"⟩
abbrev cJ8_hugeLength_7cf53 : ByteArray := prog_27_method_28_code
def yJ8_hugeLength_7cf53 : MethodName := ⟨"jdk/internal/util/ArraysSupport", "hugeLength", "(II)I"⟩
def RJ3 : String := "jdk/internal/util/Preconditions"
def TJ3 : u_T := fun k => match k with
  | _ => ("", "", "", false)
def tyJ3 : Nat → FieldType := fun k => match k with
  | _ => .int
abbrev wsJ30 : List Cond := u_ws "jdk/internal/util/Preconditions" TJ3 0
theorem nmJ3 : ∀ a, a < 0 → ∀ b, b < 0 → a ≠ b → (TJ3 a).2.1 ≠ (TJ3 b).2.1 := by decide +kernel
theorem tyJ3_ok : ∀ k, k < 0 → parseFieldDescriptor (TJ3 k).2.2.1 = some (tyJ3 k) := by decide +kernel
abbrev cJ3_checkIndex_8e157 : ByteArray := prog_28_method_11_code
def yJ3_checkIndex_8e157 : MethodName := ⟨"jdk/internal/util/Preconditions", "checkIndex", "(IILjava/util/function/BiFunction;)I"⟩
abbrev cJ3_checkFromToIndex_8c36e : ByteArray := prog_28_method_12_code
def yJ3_checkFromToIndex_8c36e : MethodName := ⟨"jdk/internal/util/Preconditions", "checkFromToIndex", "(IIILjava/util/function/BiFunction;)I"⟩
abbrev cJ3_checkFromIndexSize_8c36e : ByteArray := prog_28_method_13_code
def yJ3_checkFromIndexSize_8c36e : MethodName := ⟨"jdk/internal/util/Preconditions", "checkFromIndexSize", "(IIILjava/util/function/BiFunction;)I"⟩
def RL : String := "UrnHeapLaw"
abbrev cL_law : ByteArray := code
def yL_law : MethodName := ⟨"UrnHeapLaw", "law", "([I)Z"⟩
abbrev vwCl : List vw_C := [("java/lang/StringBuilder", TJ4, 4), ("UrnHeap$Hands", TX1, 2), ("UrnHeap$Heap", TX2, 17), ("UrnHeap$History", TX3, 6), ("UrnHeap$Line", TX5, 1), ("UrnHeap$Orders", TX6, 8), ("UrnHeap$Paths", TX7, 2), ("UrnHeap$Refusals", TX8, 2), ("UrnHeap$Row", TX9, 2), ("UrnHeap$Sexton", TX10, 2), ("UrnHeap", TX11, 8), ("UrnHeapModel", TX12, 20)]
end
section
/-! base: numbers, the memory, the bundle of a walk -/
abbrev mu_T : Type := Nat → Int → Int
def iI (x : Int) : Int32 := Int32.ofInt x
abbrev rg_ (x : Int) : Prop := -2147483648 ≤ x ∧ x ≤ 2147483647
theorem iI_add (a b : Int) : iI a + iI b = iI (a + b) := (Int32.ofInt_add a b).symm
theorem iI_sub (a b : Int) : iI a - iI b = iI (a - b) := (Int32.ofInt_sub a b).symm
theorem iI_mul (a b : Int) : iI a * iI b = iI (a * b) := (Int32.ofInt_mul a b).symm
theorem iI_neg (a : Int) : -iI a = iI (-a) := (Int32.ofInt_neg a).symm
theorem iI_toInt {a : Int} (h : rg_ a) : (iI a).toInt = a := Int32.toInt_ofInt_of_le (by omega) (by omega)
theorem iI_clamp {a : Int} (h : rg_ a) : (iI a).toNatClampNeg = a.toNat := Int32.toNatClampNeg_ofInt_of_le (by omega) (by omega)
theorem iI_lt {a b : Int} (ha : rg_ a) (hb : rg_ b) : iI a < iI b ↔ a < b := by rw [Int32.lt_iff_toInt_lt, iI_toInt ha, iI_toInt hb]
theorem iI_le {a b : Int} (ha : rg_ a) (hb : rg_ b) : iI a ≤ iI b ↔ a ≤ b := by rw [Int32.le_iff_toInt_le, iI_toInt ha, iI_toInt hb]
theorem iI_eq {a b : Int} (ha : rg_ a) (hb : rg_ b) : iI a = iI b ↔ a = b := by rw [← Int32.toInt_inj, iI_toInt ha, iI_toInt hb]
theorem iI_of (x : Int32) : iI x.toInt = x := Int32.ofInt_toInt x
theorem iI_rg (x : Int32) : rg_ x.toInt := ⟨Int32.le_toInt x, by have := Int32.toInt_lt x; omega⟩
theorem iI_in {i : Int} {n : Nat} (h0 : 0 ≤ i) (h1 : i < n) (hn : n < 2147483648) : vp_in (iI i) n := by
  rw [vp_in_iff, iI_toInt (by omega)]
  exact ⟨h0, h1⟩
theorem iI_nat (n : Nat) : Int32.ofNat n = iI n := rfl
-- the memory: a row of numbers for each object or array
def ur_ (f : Int → Int) (i v : Int) : Int → Int := fun j => if j = i then v else f j
def um_ (μ : mu_T) (k : Nat) (f : Int → Int) : mu_T := fun q => if q = k then f else μ q
def st_ (μ : mu_T) (k : Nat) (i v : Int) : mu_T := um_ μ k (ur_ (μ k) i v)
theorem um_self (μ : mu_T) (k : Nat) (f : Int → Int) : um_ μ k f k = f := if_pos rfl
theorem um_ne {μ : mu_T} {k q : Nat} {f : Int → Int} (h : q ≠ k) : um_ μ k f q = μ q := if_neg h
-- the words of a decompiled method
def lt_ {α : Type} (a b : Int) (t f : Option α) : Option α := if rg_ a ∧ rg_ b then (if a < b then t else f) else none
def eq_ {α : Type} (a b : Int) (t f : Option α) : Option α := if a = b then t else if rg_ a ∧ rg_ b then f else none
def rd_ {α : Type} (μ : mu_T) (k n : Nat) (i : Int) (f : Int → Option α) : Option α := if 0 ≤ i ∧ i < n then f (μ k i) else none
def wr_ {α : Type} (μ : mu_T) (k n : Nat) (i v : Int) (f : mu_T → Option α) : Option α := if 0 ≤ i ∧ i < n then f (st_ μ k i v) else none
def wf_ {α : Type} (μ : mu_T) (k : Nat) (i v : Int) (f : mu_T → Option α) : Option α := f (st_ μ k i v)
def wz_ {α : Type} (μ : mu_T) (k : Nat) (i v : Int) (f : mu_T → Option α) : Option α := if v = 0 ∨ v = 1 then f (st_ μ k i v) else none
def nm_ {α : Type} (v : Int) (f : Int → Option α) : Option α := f v
def dv_ {α : Type} (a b : Int) (f : Int → Option α) : Option α := if rg_ a ∧ rg_ b ∧ b ≠ 0 then f (a.tdiv b) else none
def rm_ {α : Type} (a b : Int) (f : Int → Option α) : Option α := if rg_ a ∧ rg_ b ∧ b ≠ 0 then f (a.tmod b) else none
def bd_ {α β : Type} (x : Option α) (f : α → Option β) : Option β := match x with
  | none => none
  | some a => f a
def bp_ {α β γ : Type} (x : Option (α × β)) (f : α → β → Option γ) : Option γ := match x with
  | none => none
  | some (a, b) => f a b
def rz_ (v : Int) (μ : mu_T) : Option (Int × mu_T) := if v = 0 ∨ v = 1 then some (v, μ) else none
def ry_ (v : Int) : Option Int := if v = 0 ∨ v = 1 then some v else none
def jn_ {φ β : Type} (f : φ) (k : φ → Option β) : Option β := k f
def an_ (a b : Int) : Int := (iI a &&& iI b).toInt
def or_ (a b : Int) : Int := (iI a ||| iI b).toInt
def xo_ (a b : Int) : Int := (iI a ^^^ iI b).toInt
def sl_ (a b : Int) : Int := (iI a <<< (iI b &&& 31)).toInt
def sr_ (a b : Int) : Int := (iI a >>> (iI b &&& 31)).toInt
def su_ (a b : Int) : Int := (((iI a).toUInt32 >>> ((iI b).toUInt32 &&& Int32.toUInt32 31)).toInt32).toInt
def i2c_ (a : Int) : Int := (((iI a).toUInt32 % 65536).toInt32).toInt
def i2b_ (a : Int) : Int := ((iI a).toInt8.toInt32).toInt
theorem iI_div {a b : Int} (ha : rg_ a) (hb : rg_ b) : iI (a.tdiv b) = iI a / iI b := by
  have h := Int32.ofInt_tdiv (a := a) (b := b) (by show Int32.minValue.toInt ≤ a; have : Int32.minValue.toInt = -2147483648 := rfl; omega) (by have : Int32.maxValue.toInt = 2147483647 := rfl; omega) (by have : Int32.minValue.toInt = -2147483648 := rfl; omega) (by have : Int32.maxValue.toInt = 2147483647 := rfl; omega)
  exact h
theorem iI_rem {a b : Int} (ha : rg_ a) (hb : rg_ b) : iI (a.tmod b) = iI a - iI a / iI b * iI b := by
  rw [← iI_div ha hb, iI_mul, iI_sub]
  congr 1
  have := Int.tmod_add_mul_tdiv a b
  have h2 : b * a.tdiv b = a.tdiv b * b := Int.mul_comm _ _
  omega
theorem lt_e {α : Type} {a b : Int} {t f : Option α} {r : α} (h : lt_ a b t f = some r) : (rg_ a ∧ rg_ b) ∧ ((a < b ∧ t = some r) ∨ (¬ a < b ∧ f = some r)) := by
  unfold lt_ at h
  split at h
  next hr =>
    refine ⟨hr, ?_⟩
    split at h
    next hc => exact Or.inl ⟨hc, h⟩
    next hc => exact Or.inr ⟨hc, h⟩
  next => cases h
theorem eq_e {α : Type} {a b : Int} {t f : Option α} {r : α} (h : eq_ a b t f = some r) : (a = b ∧ t = some r) ∨ ((iI a ≠ iI b) ∧ a ≠ b ∧ f = some r) := by
  unfold eq_ at h
  split at h
  next hc => exact Or.inl ⟨hc, h⟩
  next hc =>
    split at h
    next hr => exact Or.inr ⟨fun q => hc ((iI_eq hr.1 hr.2).mp q), hc, h⟩
    next => cases h
theorem ck_e {α : Type} {c : Prop} [Decidable c] {x : Option α} {r : α} (h : (if c then x else none) = some r) : c ∧ x = some r := by
  split at h
  next hc => exact ⟨hc, h⟩
  next => cases h
theorem bd_e {α β : Type} {x : Option α} {f : α → Option β} {r : β} (h : bd_ x f = some r) : ∃ a, x = some a ∧ f a = some r := by
  unfold bd_ at h
  split at h
  next => cases h
  next a => exact ⟨a, rfl, h⟩
theorem bp_e {α β γ : Type} {x : Option (α × β)} {f : α → β → Option γ} {r : γ} (h : bp_ x f = some r) : ∃ a b, x = some (a, b) ∧ f a b = some r := by
  unfold bp_ at h
  split at h
  next => cases h
  next a b => exact ⟨a, b, rfl, h⟩
-- the world: N cells, cell k at the address ad k, made of the row μ k
def wl_ (N : Nat) (ad : Nat → Nat) (ce : Nat → (Int → Int) → va_E) (μ : mu_T) : va_W := (List.range N).map (fun k => (ad k, ce k (μ k)))
theorem wl_get {N : Nat} {ad : Nat → Nat} {ce : Nat → (Int → Int) → va_E} {μ : mu_T} {k : Nat} (h : k < N) : (wl_ N ad ce μ)[k]? = some (ad k, ce k (μ k)) := by
  unfold wl_
  rw [List.getElem?_map, List.getElem?_range h]
  rfl
theorem wl_set {N : Nat} {ad : Nat → Nat} {ce : Nat → (Int → Int) → va_E} {μ : mu_T} {k : Nat} (f : Int → Int) : (wl_ N ad ce μ).set k (ad k, ce k f) = wl_ N ad ce (um_ μ k f) := by
  apply List.ext_getElem?
  intro i
  by_cases hi : i < N
  · rw [wl_get hi]
    by_cases hik : i = k
    · subst hik
      rw [List.getElem?_set_self (by unfold wl_; simpa using hi), um_self]
    · rw [List.getElem?_set_ne (Ne.symm hik), wl_get hi, um_ne hik]
  · rw [List.getElem?_eq_none (by unfold wl_; simp; omega), List.getElem?_eq_none (by unfold wl_; simp; omega)]
end
section
/-! the bundle of a walk, contracts, and a row for each instruction over a world of N cells -/
abbrev gp_ : Type := va_G × (Nat → Nat) × Nat
abbrev ct_ : Type := Program × Launch × Env × Room × State × MethodId × Array Value × List Frame × Method × Code × (State → Prop) × (Nat → Prop) × Nat
def gT_ : List Cond := lw_tbl.filter goodWord
theorem gm_ (i : Nat) {w : Cond} (h : (decide (lw_tbl[i]? = some w) && goodWord w) = true) : w ∈ gT_ := by
  simp only [Bool.and_eq_true, decide_eq_true_eq] at h
  exact List.mem_filter.mpr ⟨List.mem_of_getElem? h.1, h.2⟩
theorem gl_ {ws : List Cond} (h : ws.all (fun w => decide (w ∈ lw_tbl) && goodWord w) = true) : ∀ w ∈ ws, w ∈ gT_ := fun w hw => by
  have h1 := List.all_eq_true.mp h w hw
  simp only [Bool.and_eq_true, decide_eq_true_eq] at h1
  exact List.mem_filter.mpr ⟨h1.1, h1.2⟩
theorem gT_tbl {w : Cond} (h : w ∈ gT_) : w ∈ lw_tbl := (List.mem_filter.mp h).1
theorem gT_good {w : Cond} (h : w ∈ gT_) : (w.onTables && w.keeps) = true ∨ ∃ ty, w = .arrayClass ty := good_of_word (List.mem_filter.mp h).2
def tys_ (D : va_G) : List (ClassId × FieldType) := [(D.1 100, .int), (D.1 101, .byte), (D.1 102, .object "UrnHeap$Heap"), (D.1 103, .object "UrnHeap$Kind")]
/-- what no cell of the world is, and nobody writes: by the state U, with the heap H -/
def gk_ (G : gp_) (U : State) (H : Heap) : Prop := va_Z "java/lang/String" "COMPACT_STRINGS" "Z" (.int 1) (fun q => G.2.2 ≤ q) U H
theorem gk_moved {G : gp_} {u U : State} {H : Heap} (hvm : u.vm.Alike U.vm) (h : gk_ G u H) : gk_ G U H := va_Z.moved hvm h
theorem gk_kept {G : gp_} {U : State} {H H1 : Heap} (h : gk_ G U H) (hq : ∀ a : Nat, a < H.size → ¬ G.2.2 ≤ a → H1[a]? = H[a]?) : gk_ G U H1 := va_Z.kept h hq
def cx_ (G : gp_) (X : ct_) (cc : ByteArray) (own : String) (rm : Room) (ret : Option FieldType) (nl : Nat) : Prop := match X with
  | (p, _, _, R, s, m, args, _, meth, c, _, A, nL) => p.tables.exec = Jvm.exec ∧ c.code = cc ∧ (∀ w ∈ gT_, w.before args s = true) ∧ s.vm.findClass own = some m.cls ∧ va_K G.1 vwCl (tys_ G.1) s ∧ (∀ q, s.heap.size ≤ q → A q) ∧ c.maxLocals = nL ∧ meth.locks = false ∧ (∀ q, A q → G.2.2 ≤ q) ∧ R = rm ∧ meth.sig.returnType = ret ∧ gk_ G s s.heap ∧ nL = nl
def wx_ (G : gp_) (X : ct_) (N : Nat) (ad : Nat → Nat) (ce : Nat → (Int → Int) → va_E) (μ : mu_T) (k n pc : Nat) (lv : List (Nat × Value)) (st : List Value) : Prop := match X with
  | (p, l, e, R, s, m, args, below, meth, c, Q, A, nL) => ∀ (H : Heap) (locs : List Loc) (ls : Array Slot), va_P G.1 vwCl (wl_ N ad ce μ) H → va_D A (wl_ N ad ce μ) → va_S A s.heap H locs → lv_has ls nL lv → W p l e R s m args below meth c H locs k n Q (F0 m pc ls st)
def po_ (G : gp_) (N : Nat) (ad : Nat → Nat) (ce : Nat → (Int → Int) → va_E) (A : Nat → Prop) (μ : mu_T) (t : State) : Prop := va_P G.1 vwCl (wl_ N ad ce μ) t.heap ∧ va_K G.1 vwCl (tys_ G.1) t ∧ va_D A (wl_ N ad ce μ)
def pr_ (G : gp_) (N : Nat) (ad : Nat → Nat) (ce : Nat → (Int → Int) → va_E) (μ : mu_T) (sz : Nat) (U : State) : Prop := U.heap.size = sz ∧ va_P G.1 vwCl (wl_ N ad ce μ) U.heap ∧ va_K G.1 vwCl (tys_ G.1) U ∧ va_D (fun q => G.2.2 ≤ q) (wl_ N ad ce μ) ∧ G.2.2 ≤ sz ∧ gk_ G U U.heap
def qi_ (G : gp_) (N : Nat) (ad : Nat → Nat) (ce : Nat → (Int → Int) → va_E) (A : Nat → Prop) (a : Int) (μ : mu_T) : Array Value → State → Outcome → State → Prop := va_Qi (fun (r : Int32) (_ : Unit) => r = iI a) (fun _ t => po_ G N ad ce A μ t) A
def qv_ (G : gp_) (N : Nat) (ad : Nat → Nat) (ce : Nat → (Int → Int) → va_E) (A : Nat → Prop) (μ : mu_T) : Array Value → State → Outcome → State → Prop := va_Qv (fun (_ : Unit) => True) (fun _ t => po_ G N ad ce A μ t) A
/-- a contract: int answers (boolean, char) -/
def mi_ (y : MethodName) (cc : ByteArray) (maxL : Nat) (ret : Option FieldType) (rm : Room) (G : gp_) (N : Nat) (ad : Nat → Nat) (ce : Nat → (Int → Int) → va_E) (av : List Value) (μ : mu_T) (a : Int) (μ' : mu_T) : Prop := ∀ (l : Launch) (sz : Nat), Met l y (Cond.code y cc maxL ret :: gT_) rm (va_Pc av (pr_ G N ad ce μ sz)) (qi_ G N ad ce (va_A (wl_ N ad ce μ) sz) a μ') rm.cells rm.slots (va_A (wl_ N ad ce μ) sz)
def mv_ (y : MethodName) (cc : ByteArray) (maxL : Nat) (rm : Room) (G : gp_) (N : Nat) (ad : Nat → Nat) (ce : Nat → (Int → Int) → va_E) (av : List Value) (μ : mu_T) (μ' : mu_T) : Prop := ∀ (l : Launch) (sz : Nat), Met l y (Cond.code y cc maxL none :: gT_) rm (va_Pc av (pr_ G N ad ce μ sz)) (qv_ G N ad ce (va_A (wl_ N ad ce μ) sz) μ') rm.cells rm.slots (va_A (wl_ N ad ce μ) sz)
def ei_ (G : gp_) (X : ct_) (N : Nat) (ad : Nat → Nat) (ce : Nat → (Int → Int) → va_E) (a : Int) (μ : mu_T) (rm : Room) : Prop := match X with
  | (_, _, _, _, s, _, args, below, _, _, Q, A, _) => Q = MQ below (qi_ G N ad ce A a μ) args s rm.cells rm.slots A
def ev_ (G : gp_) (X : ct_) (N : Nat) (ad : Nat → Nat) (ce : Nat → (Int → Int) → va_E) (μ : mu_T) (rm : Room) : Prop := match X with
  | (_, _, _, _, s, _, args, below, _, _, Q, A, _) => Q = MQ below (qv_ G N ad ce A μ) args s rm.cells rm.slots A
section MIN
variable {y : MethodName} {cc : ByteArray} {maxL : Nat} {ret : Option FieldType} {rm : Room} {G : gp_} {N : Nat} {ad : Nat → Nat} {ce : Nat → (Int → Int) → va_E} {av : List Value} {μ μ' : mu_T} {a : Int} {own : String} {lv : List (Nat × Value)}
theorem mi_in (hy : plainName y.cls = true) (hown : y.cls = own) (hlv : lv_args 0 av = lv) (hn : (lg_sl av).length ≤ maxL) (body : ∀ X : ct_, cx_ G X cc own rm ret maxL → ei_ G X N ad ce a μ' rm → wx_ G X N ad ce μ 0 0 0 lv []) : mi_ y cc maxL ret rm G N ad ce av μ a μ' := by
  intro l sz
  refine Met.ofW (cc := cc) (maxL := maxL) (ret := ret) hy rfl ?_
  intro p e s m args below meth c s₁ B hml hv
  obtain ⟨rfl, hsz, hP, hK, hD0, hbs, hg⟩ := hv
  subst hsz
  have hts := atoms_spec (ws := Cond.code y cc maxL ret :: gT_) B.pre
  have hfc : s.vm.findClass y.cls = some m.cls := findClass_of_methodNamed B.named
  rw [lg_entry_eq]
  have hl := lv_entry av hn
  rw [hlv] at hl
  have hAb : ∀ q, va_A (wl_ N ad ce μ) s.heap.size q → G.2.2 ≤ q := fun q h => by
    rcases h with ⟨k, e, h⟩ | h
    · exact hD0.2 k _ h
    · exact Nat.le_trans hbs h
  exact body (p, l, e, (headSpec (Cond.code y cc maxL ret :: gT_) rm).room, s, m, av.toArray, below, meth, c, _, va_A (wl_ N ad ce μ) s.heap.size, maxL)
    ⟨B.exec, B.bytes, fun w hw => hts w (List.mem_cons_of_mem _ hw), hown ▸ hfc, hK, fun q h => Or.inr h, hml, B.notSynchronized, hAb, rfl, B.returns, hg, rfl⟩ rfl s.heap [] _ hP (hD0.self (sz := s.heap.size)) va_S.rf hl
theorem mv_in (hy : plainName y.cls = true) (hown : y.cls = own) (hlv : lv_args 0 av = lv) (hn : (lg_sl av).length ≤ maxL) (body : ∀ X : ct_, cx_ G X cc own rm none maxL → ev_ G X N ad ce μ' rm → wx_ G X N ad ce μ 0 0 0 lv []) : mv_ y cc maxL rm G N ad ce av μ μ' := by
  intro l sz
  refine Met.ofW (cc := cc) (maxL := maxL) (ret := none) hy rfl ?_
  intro p e s m args below meth c s₁ B hml hv
  obtain ⟨rfl, hsz, hP, hK, hD0, hbs, hg⟩ := hv
  subst hsz
  have hts := atoms_spec (ws := Cond.code y cc maxL none :: gT_) B.pre
  have hfc : s.vm.findClass y.cls = some m.cls := findClass_of_methodNamed B.named
  rw [lg_entry_eq]
  have hl := lv_entry av hn
  rw [hlv] at hl
  have hAb : ∀ q, va_A (wl_ N ad ce μ) s.heap.size q → G.2.2 ≤ q := fun q h => by
    rcases h with ⟨k, e, h⟩ | h
    · exact hD0.2 k _ h
    · exact Nat.le_trans hbs h
  exact body (p, l, e, (headSpec (Cond.code y cc maxL none :: gT_) rm).room, s, m, av.toArray, below, meth, c, _, va_A (wl_ N ad ce μ) s.heap.size, maxL)
    ⟨B.exec, B.bytes, fun w hw => hts w (List.mem_cons_of_mem _ hw), hown ▸ hfc, hK, fun q h => Or.inr h, hml, B.notSynchronized, hAb, rfl, B.returns, hg, rfl⟩ rfl s.heap [] _ hP (hD0.self (sz := s.heap.size)) va_S.rf hl
end MIN
end
section
/-! rows over wx_ (written by wip/gen/rows.py) -/
/-- a switch on numbers: the branches by their values -/
def tw_ {α : Type} (a : Int) : List Int → List (Option α) → Option α → Option α
  | v :: vs, b :: bs, df => if a = v then b else tw_ a vs bs df
  | _, _, df => df
def ts_ {α : Type} (a : Int) (vs : List Int) (bs : List (Option α)) (df : Option α) : Option α := if rg_ a then tw_ a vs bs df else none
def ti_ (a : Int) : List Int → List Nat → Nat → Nat
  | v :: vs, t :: ts, tD => if a = v then t else ti_ a vs ts tD
  | _, _, tD => tD
def tk_ (pc : Nat) (dflt lo hi : Int) (offs : List Int) (vs : List Int) (ts : List Nat) (tD : Nat) : Bool :=
  decide ((pc : Int) + dflt = (tD : Int)) && decide (lo + offs.length = hi + 1) && decide (vs.length = ts.length) && (List.range offs.length).all (fun i => decide ((pc : Int) + offs.getD i 0 = ((ti_ (lo + i) vs ts tD : Nat) : Int))) && (List.range vs.length).all (fun i => decide (lo ≤ vs.getD i 0 ∧ vs.getD i 0 ≤ hi ∧ ti_ (vs.getD i 0) vs ts tD = ts.getD i 0))
theorem ti_no (a : Int) : ∀ (vs : List Int) (ts : List Nat) (tD : Nat), (∀ v ∈ vs, a ≠ v) → ti_ a vs ts tD = tD
  | [], _, _, _ => by unfold ti_; rfl
  | v :: vs, [], _, _ => by unfold ti_; rfl
  | v :: vs, t :: ts, tD, h => by
    unfold ti_
    rw [if_neg (h v List.mem_cons_self)]
    exact ti_no a vs ts tD (fun w hw => h w (List.mem_cons_of_mem _ hw))
theorem tk_p {pc : Nat} {dflt lo hi : Int} {offs vs : List Int} {ts : List Nat} {tD : Nat} (h : tk_ pc dflt lo hi offs vs ts tD = true) : (pc : Int) + dflt = (tD : Int) ∧ lo + offs.length = hi + 1 ∧ vs.length = ts.length ∧ (∀ i, i < offs.length → (pc : Int) + offs.getD i 0 = ((ti_ (lo + i) vs ts tD : Nat) : Int)) ∧ ∀ i, i < vs.length → lo ≤ vs.getD i 0 ∧ vs.getD i 0 ≤ hi ∧ ti_ (vs.getD i 0) vs ts tD = ts.getD i 0 := by
  simp only [tk_, Bool.and_eq_true, decide_eq_true_eq, List.all_eq_true, List.mem_range] at h
  exact ⟨h.1.1.1.1, h.1.1.1.2, h.1.1.2, h.1.2, h.2⟩
theorem tk_d {pc : Nat} {dflt lo hi : Int} {offs vs : List Int} {ts : List Nat} {tD : Nat} (h : tk_ pc dflt lo hi offs vs ts tD = true) : (pc : Int) + dflt = (tD : Int) := (tk_p h).1
theorem tk_o {pc : Nat} {dflt lo hi : Int} {offs vs : List Int} {ts : List Nat} {tD : Nat} (h : tk_ pc dflt lo hi offs vs ts tD = true) {a : Int} (ha : lo ≤ a ∧ a ≤ hi) (hno : ∀ v ∈ vs, a ≠ v) : ∃ off, offs[(a - lo).toNat]? = some off ∧ (pc : Int) + off = (tD : Int) := by
  obtain ⟨-, h2, -, h4, -⟩ := tk_p h
  have hi : (a - lo).toNat < offs.length := by omega
  refine ⟨offs.getD (a - lo).toNat 0, ?_, ?_⟩
  · rw [List.getD_eq_getElem?_getD, List.getElem?_eq_getElem hi]; rfl
  · rw [h4 _ hi, show lo + (((a - lo).toNat : Nat) : Int) = a by omega, ti_no a vs ts tD hno]
theorem tk_i {pc : Nat} {dflt lo hi : Int} {offs vs : List Int} {ts : List Nat} {tD : Nat} (h : tk_ pc dflt lo hi offs vs ts tD = true) {i : Nat} {a : Int} (ha : vs[i]? = some a) : ∃ t off, ts[i]? = some t ∧ offs[(a - lo).toNat]? = some off ∧ (pc : Int) + off = (t : Int) ∧ lo ≤ a ∧ a ≤ hi := by
  obtain ⟨-, h2, h3, h4, h5⟩ := tk_p h
  have hiv : i < vs.length := (List.getElem?_eq_some_iff.mp ha).1
  have hg : vs.getD i 0 = a := by rw [List.getD_eq_getElem?_getD, ha]; rfl
  obtain ⟨q1, q2, q3⟩ := h5 i hiv
  rw [hg] at q1 q2 q3
  have hi : (a - lo).toNat < offs.length := by omega
  refine ⟨ts.getD i 0, offs.getD (a - lo).toNat 0, ?_, ?_, ?_, q1, q2⟩
  · rw [List.getD_eq_getElem?_getD, List.getElem?_eq_getElem (by omega)]; rfl
  · rw [List.getD_eq_getElem?_getD, List.getElem?_eq_getElem hi]; rfl
  · rw [h4 _ hi, show lo + (((a - lo).toNat : Nat) : Int) = a by omega, q3]
theorem tw_e {α : Type} {a : Int} {r : α} {df : Option α} : ∀ (vs : List Int) (bs : List (Option α)), tw_ a vs bs df = some r → ((∀ v ∈ vs.take bs.length, a ≠ v) ∧ df = some r) ∨ ∃ (i : Nat) (b : Option α), vs[i]? = some a ∧ bs[i]? = some b ∧ b = some r
  | [], bs, h => Or.inl ⟨fun v hv => by simp at hv, by unfold tw_ at h; exact h⟩
  | v :: vs, [], h => Or.inl ⟨fun v hv => by simp at hv, by unfold tw_ at h; exact h⟩
  | v :: vs, b :: bs, h => by
    unfold tw_ at h
    split at h
    next hc => exact Or.inr ⟨0, b, by rw [hc]; rfl, rfl, h⟩
    next hc =>
      rcases tw_e vs bs h with ⟨h1, h2⟩ | ⟨i, b, h1, h2, h3⟩
      · refine Or.inl ⟨fun w hw => ?_, h2⟩
        rcases List.mem_cons.mp (by simpa using hw) with rfl | hw
        · exact hc
        · exact h1 w hw
      · exact Or.inr ⟨i + 1, b, h1, h2, h3⟩
theorem tw_e2 {α : Type} {a : Int} {r : α} {df : Option α} {vs : List Int} {bs : List (Option α)} (hl : vs.length = bs.length) (h : tw_ a vs bs df = some r) : ((∀ v ∈ vs, a ≠ v) ∧ df = some r) ∨ ∃ (i : Nat) (b : Option α), vs[i]? = some a ∧ bs[i]? = some b ∧ b = some r := by
  have h1 := tw_e vs bs h
  rw [← hl, List.take_length] at h1
  exact h1
section XR
variable {G : gp_} {X : ct_} {N : Nat} {ad : Nat → Nat} {ce : Nat → (Int → Int) → va_E} {μ : mu_T} {k n pc : Nat} {lv lv1 : List (Nat × Value)} {st stk : List Value} {cc : ByteArray} {own : String} {rm : Room} {ret : Option FieldType} {nl : Nat} {α : Type} {r : α}
theorem xx_iconst (C : cx_ G X cc own rm ret nl) (p1 : Nat) (hp : pc + 1 = p1) {v : Int} (d : decode cc pc = .ok (.iconst v, 1))  (h : wx_ G X N ad ce μ k n p1 lv (.int (iI v) :: st)) : wx_ G X N ad ce μ k n pc lv st := by
  obtain ⟨p, l, e, R, s, m, args, below, meth, c, Q, A, nL⟩ := X
  intro H locs ls hP hD hS hl
  subst hp
  refine lv_iconst C.1 C.2.1 d rfl ?_
  exact h H locs ls hP hD hS hl
theorem xx_bipush (C : cx_ G X cc own rm ret nl) (p1 : Nat) (hp : pc + 2 = p1) {v : Int} (d : decode cc pc = .ok (.bipush v, 2)) (hv : (Int8.ofInt v).toInt32 = iI v) (h : wx_ G X N ad ce μ k n p1 lv (.int (iI v) :: st)) : wx_ G X N ad ce μ k n pc lv st := by
  obtain ⟨p, l, e, R, s, m, args, below, meth, c, Q, A, nL⟩ := X
  intro H locs ls hP hD hS hl
  subst hp
  refine lv_bipush C.1 C.2.1 d hv ?_
  exact h H locs ls hP hD hS hl
theorem xx_sipush (C : cx_ G X cc own rm ret nl) (p1 : Nat) (hp : pc + 3 = p1) {v : Int} (d : decode cc pc = .ok (.sipush v, 3)) (hv : (Int16.ofInt v).toInt32 = iI v) (h : wx_ G X N ad ce μ k n p1 lv (.int (iI v) :: st)) : wx_ G X N ad ce μ k n pc lv st := by
  obtain ⟨p, l, e, R, s, m, args, below, meth, c, Q, A, nL⟩ := X
  intro H locs ls hP hD hS hl
  subst hp
  refine lv_sipush C.1 C.2.1 d hv ?_
  exact h H locs ls hP hD hS hl
theorem xx_iadd (C : cx_ G X cc own rm ret nl) (p1 : Nat) (hp : pc + 1 = p1) {a b : Int} (d : decode cc pc = .ok (.iadd, 1))  (h : wx_ G X N ad ce μ k n p1 lv (.int (iI (a + b)) :: st)) : wx_ G X N ad ce μ k n pc lv (.int (iI b) :: .int (iI a) :: st) := by
  obtain ⟨p, l, e, R, s, m, args, below, meth, c, Q, A, nL⟩ := X
  intro H locs ls hP hD hS hl
  subst hp
  refine lv_iadd C.1 C.2.1 d ?_
  rw [iI_add]
  exact h H locs ls hP hD hS hl
theorem xx_isub (C : cx_ G X cc own rm ret nl) (p1 : Nat) (hp : pc + 1 = p1) {a b : Int} (d : decode cc pc = .ok (.isub, 1))  (h : wx_ G X N ad ce μ k n p1 lv (.int (iI (a - b)) :: st)) : wx_ G X N ad ce μ k n pc lv (.int (iI b) :: .int (iI a) :: st) := by
  obtain ⟨p, l, e, R, s, m, args, below, meth, c, Q, A, nL⟩ := X
  intro H locs ls hP hD hS hl
  subst hp
  refine lv_isub C.1 C.2.1 d ?_
  rw [iI_sub]
  exact h H locs ls hP hD hS hl
theorem xx_imul (C : cx_ G X cc own rm ret nl) (p1 : Nat) (hp : pc + 1 = p1) {a b : Int} (d : decode cc pc = .ok (.imul, 1))  (h : wx_ G X N ad ce μ k n p1 lv (.int (iI (a * b)) :: st)) : wx_ G X N ad ce μ k n pc lv (.int (iI b) :: .int (iI a) :: st) := by
  obtain ⟨p, l, e, R, s, m, args, below, meth, c, Q, A, nL⟩ := X
  intro H locs ls hP hD hS hl
  subst hp
  refine lv_imul C.1 C.2.1 d ?_
  rw [iI_mul]
  exact h H locs ls hP hD hS hl
theorem xx_ineg (C : cx_ G X cc own rm ret nl) (p1 : Nat) (hp : pc + 1 = p1) {a : Int} (d : decode cc pc = .ok (.ineg, 1))  (h : wx_ G X N ad ce μ k n p1 lv (.int (iI (-a)) :: st)) : wx_ G X N ad ce μ k n pc lv (.int (iI a) :: st) := by
  obtain ⟨p, l, e, R, s, m, args, below, meth, c, Q, A, nL⟩ := X
  intro H locs ls hP hD hS hl
  subst hp
  refine lv_ineg C.1 C.2.1 d ?_
  rw [iI_neg]
  exact h H locs ls hP hD hS hl
theorem xx_iand (C : cx_ G X cc own rm ret nl) (p1 : Nat) (hp : pc + 1 = p1) {a b : Int} (d : decode cc pc = .ok (.iand, 1))  (h : wx_ G X N ad ce μ k n p1 lv (.int (iI (an_ a b)) :: st)) : wx_ G X N ad ce μ k n pc lv (.int (iI b) :: .int (iI a) :: st) := by
  obtain ⟨p, l, e, R, s, m, args, below, meth, c, Q, A, nL⟩ := X
  intro H locs ls hP hD hS hl
  subst hp
  refine lv_iand C.1 C.2.1 d ?_
  rw [show iI a &&& iI b = iI (an_ a b) from (iI_of _).symm]
  exact h H locs ls hP hD hS hl
theorem xx_ior (C : cx_ G X cc own rm ret nl) (p1 : Nat) (hp : pc + 1 = p1) {a b : Int} (d : decode cc pc = .ok (.ior, 1))  (h : wx_ G X N ad ce μ k n p1 lv (.int (iI (or_ a b)) :: st)) : wx_ G X N ad ce μ k n pc lv (.int (iI b) :: .int (iI a) :: st) := by
  obtain ⟨p, l, e, R, s, m, args, below, meth, c, Q, A, nL⟩ := X
  intro H locs ls hP hD hS hl
  subst hp
  refine lv_ior C.1 C.2.1 d ?_
  rw [show iI a ||| iI b = iI (or_ a b) from (iI_of _).symm]
  exact h H locs ls hP hD hS hl
theorem xx_ixor (C : cx_ G X cc own rm ret nl) (p1 : Nat) (hp : pc + 1 = p1) {a b : Int} (d : decode cc pc = .ok (.ixor, 1))  (h : wx_ G X N ad ce μ k n p1 lv (.int (iI (xo_ a b)) :: st)) : wx_ G X N ad ce μ k n pc lv (.int (iI b) :: .int (iI a) :: st) := by
  obtain ⟨p, l, e, R, s, m, args, below, meth, c, Q, A, nL⟩ := X
  intro H locs ls hP hD hS hl
  subst hp
  refine lv_ixor C.1 C.2.1 d ?_
  rw [show iI a ^^^ iI b = iI (xo_ a b) from (iI_of _).symm]
  exact h H locs ls hP hD hS hl
theorem xx_ishl (C : cx_ G X cc own rm ret nl) (p1 : Nat) (hp : pc + 1 = p1) {a b : Int} (d : decode cc pc = .ok (.ishl, 1))  (h : wx_ G X N ad ce μ k n p1 lv (.int (iI (sl_ a b)) :: st)) : wx_ G X N ad ce μ k n pc lv (.int (iI b) :: .int (iI a) :: st) := by
  obtain ⟨p, l, e, R, s, m, args, below, meth, c, Q, A, nL⟩ := X
  intro H locs ls hP hD hS hl
  subst hp
  refine lv_ishl C.1 C.2.1 d ?_
  rw [show iI a <<< (iI b &&& 31) = iI (sl_ a b) from (iI_of _).symm]
  exact h H locs ls hP hD hS hl
theorem xx_ishr (C : cx_ G X cc own rm ret nl) (p1 : Nat) (hp : pc + 1 = p1) {a b : Int} (d : decode cc pc = .ok (.ishr, 1))  (h : wx_ G X N ad ce μ k n p1 lv (.int (iI (sr_ a b)) :: st)) : wx_ G X N ad ce μ k n pc lv (.int (iI b) :: .int (iI a) :: st) := by
  obtain ⟨p, l, e, R, s, m, args, below, meth, c, Q, A, nL⟩ := X
  intro H locs ls hP hD hS hl
  subst hp
  refine lv_ishr C.1 C.2.1 d ?_
  rw [show iI a >>> (iI b &&& 31) = iI (sr_ a b) from (iI_of _).symm]
  exact h H locs ls hP hD hS hl
theorem xx_iushr (C : cx_ G X cc own rm ret nl) (p1 : Nat) (hp : pc + 1 = p1) {a b : Int} (d : decode cc pc = .ok (.iushr, 1))  (h : wx_ G X N ad ce μ k n p1 lv (.int (iI (su_ a b)) :: st)) : wx_ G X N ad ce μ k n pc lv (.int (iI b) :: .int (iI a) :: st) := by
  obtain ⟨p, l, e, R, s, m, args, below, meth, c, Q, A, nL⟩ := X
  intro H locs ls hP hD hS hl
  subst hp
  refine lv_iushr C.1 C.2.1 d (iI_of _).symm ?_
  exact h H locs ls hP hD hS hl
theorem xx_i2c (C : cx_ G X cc own rm ret nl) (p1 : Nat) (hp : pc + 1 = p1) {a : Int} (d : decode cc pc = .ok (.i2c, 1))  (h : wx_ G X N ad ce μ k n p1 lv (.int (iI (i2c_ a)) :: st)) : wx_ G X N ad ce μ k n pc lv (.int (iI a) :: st) := by
  obtain ⟨p, l, e, R, s, m, args, below, meth, c, Q, A, nL⟩ := X
  intro H locs ls hP hD hS hl
  subst hp
  refine lv_i2c C.1 C.2.1 d (iI_of _).symm ?_
  exact h H locs ls hP hD hS hl
theorem xx_i2b (C : cx_ G X cc own rm ret nl) (p1 : Nat) (hp : pc + 1 = p1) {a : Int} (d : decode cc pc = .ok (.i2b, 1))  (h : wx_ G X N ad ce μ k n p1 lv (.int (iI (i2b_ a)) :: st)) : wx_ G X N ad ce μ k n pc lv (.int (iI a) :: st) := by
  obtain ⟨p, l, e, R, s, m, args, below, meth, c, Q, A, nL⟩ := X
  intro H locs ls hP hD hS hl
  subst hp
  refine lv_i2b C.1 C.2.1 d (iI_of _).symm ?_
  exact h H locs ls hP hD hS hl
theorem xx_dup (C : cx_ G X cc own rm ret nl) (p1 : Nat) (hp : pc + 1 = p1) {va : Value} (d : decode cc pc = .ok (.dup, 1)) (hva : va.category = 1) (h : wx_ G X N ad ce μ k n p1 lv (va :: va :: st)) : wx_ G X N ad ce μ k n pc lv (va :: st) := by
  obtain ⟨p, l, e, R, s, m, args, below, meth, c, Q, A, nL⟩ := X
  intro H locs ls hP hD hS hl
  subst hp
  refine lv_dup C.1 C.2.1 d hva ?_
  exact h H locs ls hP hD hS hl
theorem xx_pop (C : cx_ G X cc own rm ret nl) (p1 : Nat) (hp : pc + 1 = p1) {va : Value} (d : decode cc pc = .ok (.pop, 1)) (hva : va.category = 1) (h : wx_ G X N ad ce μ k n p1 lv st) : wx_ G X N ad ce μ k n pc lv (va :: st) := by
  obtain ⟨p, l, e, R, s, m, args, below, meth, c, Q, A, nL⟩ := X
  intro H locs ls hP hD hS hl
  subst hp
  refine lv_pop C.1 C.2.1 d hva ?_
  exact h H locs ls hP hD hS hl
theorem xx_dup_x1 (C : cx_ G X cc own rm ret nl) (p1 : Nat) (hp : pc + 1 = p1) {va vb : Value} (d : decode cc pc = .ok (.dup_x1, 1)) (hva : va.category = 1) (hvb : vb.category = 1) (h : wx_ G X N ad ce μ k n p1 lv (va :: vb :: va :: st)) : wx_ G X N ad ce μ k n pc lv (va :: vb :: st) := by
  obtain ⟨p, l, e, R, s, m, args, below, meth, c, Q, A, nL⟩ := X
  intro H locs ls hP hD hS hl
  subst hp
  refine lv_dup_x1 C.1 C.2.1 d hva hvb ?_
  exact h H locs ls hP hD hS hl
theorem xx_dup2 (C : cx_ G X cc own rm ret nl) (p1 : Nat) (hp : pc + 1 = p1) {va vb : Value} (d : decode cc pc = .ok (.dup2, 1)) (hva : va.category = 1) (hvb : vb.category = 1) (h : wx_ G X N ad ce μ k n p1 lv (va :: vb :: va :: vb :: st)) : wx_ G X N ad ce μ k n pc lv (va :: vb :: st) := by
  obtain ⟨p, l, e, R, s, m, args, below, meth, c, Q, A, nL⟩ := X
  intro H locs ls hP hD hS hl
  subst hp
  refine lv_dup2_11 C.1 C.2.1 d hva hvb ?_
  exact h H locs ls hP hD hS hl
theorem xx_i2d (C : cx_ G X cc own rm ret nl) (p1 : Nat) (hp : pc + 1 = p1) {a : Int} (d : decode cc pc = .ok (.i2d, 1))  (h : wx_ G X N ad ce μ k n p1 lv (.double (FP.i2d (iI a)) :: st)) : wx_ G X N ad ce μ k n pc lv (.int (iI a) :: st) := by
  obtain ⟨p, l, e, R, s, m, args, below, meth, c, Q, A, nL⟩ := X
  intro H locs ls hP hD hS hl
  subst hp
  refine lv_i2d C.1 C.2.1 d ?_
  exact h H locs ls hP hD hS hl
theorem xx_i2f (C : cx_ G X cc own rm ret nl) (p1 : Nat) (hp : pc + 1 = p1) {a : Int} (d : decode cc pc = .ok (.i2f, 1))  (h : wx_ G X N ad ce μ k n p1 lv (.float (FP.i2f (iI a)) :: st)) : wx_ G X N ad ce μ k n pc lv (.int (iI a) :: st) := by
  obtain ⟨p, l, e, R, s, m, args, below, meth, c, Q, A, nL⟩ := X
  intro H locs ls hP hD hS hl
  subst hp
  refine lv_i2f C.1 C.2.1 d ?_
  exact h H locs ls hP hD hS hl
theorem xx_dconst0 (C : cx_ G X cc own rm ret nl) (p1 : Nat) (hp : pc + 1 = p1)  (d : decode cc pc = .ok (.dconst 0, 1))  (h : wx_ G X N ad ce μ k n p1 lv (.double FP.dconst0 :: st)) : wx_ G X N ad ce μ k n pc lv st := by
  obtain ⟨p, l, e, R, s, m, args, below, meth, c, Q, A, nL⟩ := X
  intro H locs ls hP hD hS hl
  subst hp
  refine lv_dconst0 C.1 C.2.1 d ?_
  exact h H locs ls hP hD hS hl
theorem xx_fconst0 (C : cx_ G X cc own rm ret nl) (p1 : Nat) (hp : pc + 1 = p1)  (d : decode cc pc = .ok (.fconst 0, 1))  (h : wx_ G X N ad ce μ k n p1 lv (.float FP.fconst0 :: st)) : wx_ G X N ad ce μ k n pc lv st := by
  obtain ⟨p, l, e, R, s, m, args, below, meth, c, Q, A, nL⟩ := X
  intro H locs ls hP hD hS hl
  subst hp
  refine lv_fconst0 C.1 C.2.1 d ?_
  exact h H locs ls hP hD hS hl
theorem xx_iload_n (C : cx_ G X cc own rm ret nl) (p1 : Nat) (hp : pc + 1 = p1) (q : Nat) {kf : Fin 4} {j : Nat} {x : Int32} (d : decode cc pc = .ok (.iload_n kf, 1)) (hi : (kf : Nat) = j) (hq : lv[q]? = some (j, .int x)) (h : wx_ G X N ad ce μ k n p1 lv (.int x :: st)) : wx_ G X N ad ce μ k n pc lv st := by
  obtain ⟨p, l, e, R, s, m, args, below, meth, c, Q, A, nL⟩ := X
  intro H locs ls hP hD hS hl
  subst hp
  exact lv_iload_n C.1 C.2.1 d hi (lv_at hl q hq) (h H locs ls hP hD hS hl)
theorem xx_iload (C : cx_ G X cc own rm ret nl) (p1 : Nat) (hp : pc + 2 = p1) (q : Nat) {j : Nat} {x : Int32} (d : decode cc pc = .ok (.iload j, 2)) (hq : lv[q]? = some (j, .int x)) (h : wx_ G X N ad ce μ k n p1 lv (.int x :: st)) : wx_ G X N ad ce μ k n pc lv st := by
  obtain ⟨p, l, e, R, s, m, args, below, meth, c, Q, A, nL⟩ := X
  intro H locs ls hP hD hS hl
  subst hp
  exact lv_iload C.1 C.2.1 d (lv_at hl q hq) (h H locs ls hP hD hS hl)
theorem xx_istore_n (C : cx_ G X cc own rm ret nl) (p1 : Nat) (hp : pc + 1 = p1) {kf : Fin 4} {j : Nat} {x : Int32} (hn : j < nl) (d : decode cc pc = .ok (.istore_n kf, 1)) (hi : (kf : Nat) = j) (hf : (j, Value.int x) :: lv.filter (fun q => !(q.1 == j) && !(q.1 + 1 == j && q.2.category == 2)) = lv1) (h : wx_ G X N ad ce μ k n p1 lv1 st) : wx_ G X N ad ce μ k n pc lv (.int x :: st) := by
  obtain ⟨p, l, e, R, s, m, args, below, meth, c, Q, A, nL⟩ := X
  intro H locs ls hP hD hS hl
  subst hp
  exact lv_istore_n C.1 C.2.1 d hi hl (C.2.2.2.2.2.2.2.2.2.2.2.2 ▸ hn) hf (fun ls hl => h H locs ls hP hD hS hl)
theorem xx_istore (C : cx_ G X cc own rm ret nl) (p1 : Nat) (hp : pc + 2 = p1) {j : Nat} {x : Int32} (hn : j < nl) (d : decode cc pc = .ok (.istore j, 2)) (hf : (j, Value.int x) :: lv.filter (fun q => !(q.1 == j) && !(q.1 + 1 == j && q.2.category == 2)) = lv1) (h : wx_ G X N ad ce μ k n p1 lv1 st) : wx_ G X N ad ce μ k n pc lv (.int x :: st) := by
  obtain ⟨p, l, e, R, s, m, args, below, meth, c, Q, A, nL⟩ := X
  intro H locs ls hP hD hS hl
  subst hp
  exact lv_istore C.1 C.2.1 d hl (C.2.2.2.2.2.2.2.2.2.2.2.2 ▸ hn) hf (fun ls hl => h H locs ls hP hD hS hl)
theorem xx_aload_n (C : cx_ G X cc own rm ret nl) (p1 : Nat) (hp : pc + 1 = p1) (q : Nat) {kf : Fin 4} {j : Nat} {x : Nat} (d : decode cc pc = .ok (.aload_n kf, 1)) (hi : (kf : Nat) = j) (hq : lv[q]? = some (j, .ref x)) (h : wx_ G X N ad ce μ k n p1 lv (.ref x :: st)) : wx_ G X N ad ce μ k n pc lv st := by
  obtain ⟨p, l, e, R, s, m, args, below, meth, c, Q, A, nL⟩ := X
  intro H locs ls hP hD hS hl
  subst hp
  exact lv_aload_n C.1 C.2.1 d hi (lv_at hl q hq) (h H locs ls hP hD hS hl)
theorem xx_aload (C : cx_ G X cc own rm ret nl) (p1 : Nat) (hp : pc + 2 = p1) (q : Nat) {j : Nat} {x : Nat} (d : decode cc pc = .ok (.aload j, 2)) (hq : lv[q]? = some (j, .ref x)) (h : wx_ G X N ad ce μ k n p1 lv (.ref x :: st)) : wx_ G X N ad ce μ k n pc lv st := by
  obtain ⟨p, l, e, R, s, m, args, below, meth, c, Q, A, nL⟩ := X
  intro H locs ls hP hD hS hl
  subst hp
  exact lv_aload C.1 C.2.1 d (lv_at hl q hq) (h H locs ls hP hD hS hl)
theorem xx_astore_n (C : cx_ G X cc own rm ret nl) (p1 : Nat) (hp : pc + 1 = p1) {kf : Fin 4} {j : Nat} {x : Nat} (hn : j < nl) (d : decode cc pc = .ok (.astore_n kf, 1)) (hi : (kf : Nat) = j) (hf : (j, Value.ref x) :: lv.filter (fun q => !(q.1 == j) && !(q.1 + 1 == j && q.2.category == 2)) = lv1) (h : wx_ G X N ad ce μ k n p1 lv1 st) : wx_ G X N ad ce μ k n pc lv (.ref x :: st) := by
  obtain ⟨p, l, e, R, s, m, args, below, meth, c, Q, A, nL⟩ := X
  intro H locs ls hP hD hS hl
  subst hp
  exact lv_astore_n C.1 C.2.1 d hi hl (C.2.2.2.2.2.2.2.2.2.2.2.2 ▸ hn) hf (fun ls hl => h H locs ls hP hD hS hl)
theorem xx_astore (C : cx_ G X cc own rm ret nl) (p1 : Nat) (hp : pc + 2 = p1) {j : Nat} {x : Nat} (hn : j < nl) (d : decode cc pc = .ok (.astore j, 2)) (hf : (j, Value.ref x) :: lv.filter (fun q => !(q.1 == j) && !(q.1 + 1 == j && q.2.category == 2)) = lv1) (h : wx_ G X N ad ce μ k n p1 lv1 st) : wx_ G X N ad ce μ k n pc lv (.ref x :: st) := by
  obtain ⟨p, l, e, R, s, m, args, below, meth, c, Q, A, nL⟩ := X
  intro H locs ls hP hD hS hl
  subst hp
  exact lv_astore C.1 C.2.1 d hl (C.2.2.2.2.2.2.2.2.2.2.2.2 ▸ hn) hf (fun ls hl => h H locs ls hP hD hS hl)
theorem xx_iinc (C : cx_ G X cc own rm ret nl) (p1 : Nat) (hp : pc + 3 = p1) (q : Nat) {j : Nat} {v x : Int} (hn : j < nl) (d : decode cc pc = .ok (.iinc j v, 3)) (hq : lv[q]? = some (j, .int (iI x))) (hf : (j, Value.int (iI (x + v))) :: lv.filter (fun q => !(q.1 == j) && !(q.1 + 1 == j && q.2.category == 2)) = lv1) (h : wx_ G X N ad ce μ k n p1 lv1 st) : wx_ G X N ad ce μ k n pc lv st := by
  obtain ⟨p, l, e, R, s, m, args, below, meth, c, Q, A, nL⟩ := X
  intro H locs ls hP hD hS hl
  subst hp
  exact lv_iinc C.1 C.2.1 d hl hq (by rw [← iI_add]; rfl) (C.2.2.2.2.2.2.2.2.2.2.2.2 ▸ hn) hf (fun ls hl => h H locs ls hP hD hS hl)
theorem xx_iincn (C : cx_ G X cc own rm ret nl) (p1 : Nat) (hp : pc + 3 = p1) (q : Nat) {j : Nat} {v x : Int} {f : Int → Option α} (hn : j < nl) (d : decode cc pc = .ok (.iinc j v, 3)) (hq : lv[q]? = some (j, .int (iI x))) (h : nm_ (x + v) f = some r) (kk : ∀ x1, f x1 = some r → wx_ G X N ad ce μ k n p1 ((j, Value.int (iI x1)) :: lv.filter (fun q => !(q.1 == j) && !(q.1 + 1 == j && q.2.category == 2))) st) : wx_ G X N ad ce μ k n pc lv st := by
  obtain ⟨p, l, e, R, s, m, args, below, meth, c, Q, A, nL⟩ := X
  intro H locs ls hP hD hS hl
  subst hp
  exact lv_iinc C.1 C.2.1 d hl hq (by rw [← iI_add]; rfl) (C.2.2.2.2.2.2.2.2.2.2.2.2 ▸ hn) rfl (fun ls hl => kk _ h H locs ls hP hD hS hl)
theorem xx_lv (e : lv = lv1) (h : wx_ G X N ad ce μ k n pc lv1 st) : wx_ G X N ad ce μ k n pc lv st := e ▸ h
theorem nn_ {P : Prop} (h : (none : Option α) = some r) : P := by cases h
theorem xx_nm (C : cx_ G X cc own rm ret nl) {v : Int} {f : Int → Option α} (h : nm_ v f = some r) (kk : ∀ x, f x = some r → wx_ G X N ad ce μ k n pc lv (.int (iI x) :: st)) : wx_ G X N ad ce μ k n pc lv (.int (iI v) :: st) := by
  obtain ⟨p, l, e, R, s, m, args, below, meth, c, Q, A, nL⟩ := X
  intro H locs ls hP hD hS hl
  exact kk v h H locs ls hP hD hS hl
theorem xx_sub (ks : List Nat) (hlv : lv_pick lv ks = lv1) (h : wx_ G X N ad ce μ k n pc lv1 st) : wx_ G X N ad ce μ k n pc lv st := by
  obtain ⟨p, l, e, R, s, m, args, below, meth, c, Q, A, nL⟩ := X
  intro H locs ls hP hD hS hl
  exact h H locs ls hP hD hS (lv_sub hl ks hlv)
theorem xx_goto (C : cx_ G X cc own rm ret nl) {off : Int} (tgt : Nat) (d : decode cc pc = .ok (.goto off, 3)) (ht : (pc : Int) + off = (tgt : Int)) (h : wx_ G X N ad ce μ k n tgt lv st) : wx_ G X N ad ce μ k n pc lv st := by
  obtain ⟨p, l, e, R, s, m, args, below, meth, c, Q, A, nL⟩ := X
  intro H locs ls hP hD hS hl
  exact lv_goto C.1 C.2.1 d ht (h H locs ls hP hD hS hl)
theorem xx_icmp_lt (C : cx_ G X cc own rm ret nl) (p1 : Nat) (hp : pc + 3 = p1) {a b : Int} {off : Int} {tgt : Nat} {t f : Option α} (d : decode cc pc = .ok (.if_icmp .lt off, 3)) (ht : (pc : Int) + off = (tgt : Int)) (h : lt_ a b t f = some r) (k1 : t = some r → wx_ G X N ad ce μ k n tgt lv st) (k2 : f = some r → wx_ G X N ad ce μ k n p1 lv st) : wx_ G X N ad ce μ k n pc lv (.int (iI b) :: .int (iI a) :: st) := by
  obtain ⟨p, l, e, R, s, m, args, below, meth, c, Q, A, nL⟩ := X
  intro H locs ls hP hD hS hl
  subst hp
  obtain ⟨hr, ⟨hc, hh⟩ | ⟨hc, hh⟩⟩ := lt_e h
  · exact lv_icmp_lt C.1 C.2.1 d ht (fun _ => k1 hh H locs ls hP hD hS hl) (fun q => absurd ((iI_lt hr.1 hr.2).mpr hc) q)
  · exact lv_icmp_lt C.1 C.2.1 d ht (fun q => absurd ((iI_lt hr.1 hr.2).mp q) hc) (fun _ => k2 hh H locs ls hP hD hS hl)
theorem xx_if_lt (C : cx_ G X cc own rm ret nl) (p1 : Nat) (hp : pc + 3 = p1) {a : Int} {off : Int} {tgt : Nat} {t f : Option α} (d : decode cc pc = .ok (.ifCond .lt off, 3)) (ht : (pc : Int) + off = (tgt : Int)) (h : lt_ a 0 t f = some r) (k1 : t = some r → wx_ G X N ad ce μ k n tgt lv st) (k2 : f = some r → wx_ G X N ad ce μ k n p1 lv st) : wx_ G X N ad ce μ k n pc lv (.int (iI a) :: st) := by
  obtain ⟨p, l, e, R, s, m, args, below, meth, c, Q, A, nL⟩ := X
  intro H locs ls hP hD hS hl
  subst hp
  obtain ⟨hr, ⟨hc, hh⟩ | ⟨hc, hh⟩⟩ := lt_e h
  · exact lv_if_lt C.1 C.2.1 d ht (fun _ => k1 hh H locs ls hP hD hS hl) (fun q => absurd ((iI_lt hr.1 hr.2).mpr hc) q)
  · exact lv_if_lt C.1 C.2.1 d ht (fun q => absurd ((iI_lt hr.1 hr.2).mp q) hc) (fun _ => k2 hh H locs ls hP hD hS hl)
theorem xx_icmp_ge (C : cx_ G X cc own rm ret nl) (p1 : Nat) (hp : pc + 3 = p1) {a b : Int} {off : Int} {tgt : Nat} {t f : Option α} (d : decode cc pc = .ok (.if_icmp .ge off, 3)) (ht : (pc : Int) + off = (tgt : Int)) (h : lt_ a b f t = some r) (k1 : t = some r → wx_ G X N ad ce μ k n tgt lv st) (k2 : f = some r → wx_ G X N ad ce μ k n p1 lv st) : wx_ G X N ad ce μ k n pc lv (.int (iI b) :: .int (iI a) :: st) := by
  obtain ⟨p, l, e, R, s, m, args, below, meth, c, Q, A, nL⟩ := X
  intro H locs ls hP hD hS hl
  subst hp
  obtain ⟨hr, ⟨hc, hh⟩ | ⟨hc, hh⟩⟩ := lt_e h
  · exact lv_icmp_ge C.1 C.2.1 d ht (fun q => absurd ((iI_le hr.2 hr.1).mp q) (by omega)) (fun _ => k2 hh H locs ls hP hD hS hl)
  · exact lv_icmp_ge C.1 C.2.1 d ht (fun _ => k1 hh H locs ls hP hD hS hl) (fun q => absurd ((iI_le hr.2 hr.1).mpr (by omega)) q)
theorem xx_if_ge (C : cx_ G X cc own rm ret nl) (p1 : Nat) (hp : pc + 3 = p1) {a : Int} {off : Int} {tgt : Nat} {t f : Option α} (d : decode cc pc = .ok (.ifCond .ge off, 3)) (ht : (pc : Int) + off = (tgt : Int)) (h : lt_ a 0 f t = some r) (k1 : t = some r → wx_ G X N ad ce μ k n tgt lv st) (k2 : f = some r → wx_ G X N ad ce μ k n p1 lv st) : wx_ G X N ad ce μ k n pc lv (.int (iI a) :: st) := by
  obtain ⟨p, l, e, R, s, m, args, below, meth, c, Q, A, nL⟩ := X
  intro H locs ls hP hD hS hl
  subst hp
  obtain ⟨hr, ⟨hc, hh⟩ | ⟨hc, hh⟩⟩ := lt_e h
  · exact lv_if_ge C.1 C.2.1 d ht (fun q => absurd ((iI_le hr.2 hr.1).mp q) (by omega)) (fun _ => k2 hh H locs ls hP hD hS hl)
  · exact lv_if_ge C.1 C.2.1 d ht (fun _ => k1 hh H locs ls hP hD hS hl) (fun q => absurd ((iI_le hr.2 hr.1).mpr (by omega)) q)
theorem xx_icmp_gt (C : cx_ G X cc own rm ret nl) (p1 : Nat) (hp : pc + 3 = p1) {a b : Int} {off : Int} {tgt : Nat} {t f : Option α} (d : decode cc pc = .ok (.if_icmp .gt off, 3)) (ht : (pc : Int) + off = (tgt : Int)) (h : lt_ b a t f = some r) (k1 : t = some r → wx_ G X N ad ce μ k n tgt lv st) (k2 : f = some r → wx_ G X N ad ce μ k n p1 lv st) : wx_ G X N ad ce μ k n pc lv (.int (iI b) :: .int (iI a) :: st) := by
  obtain ⟨p, l, e, R, s, m, args, below, meth, c, Q, A, nL⟩ := X
  intro H locs ls hP hD hS hl
  subst hp
  obtain ⟨hr, ⟨hc, hh⟩ | ⟨hc, hh⟩⟩ := lt_e h
  · exact lv_icmp_gt C.1 C.2.1 d ht (fun _ => k1 hh H locs ls hP hD hS hl) (fun q => absurd ((iI_lt hr.1 hr.2).mpr hc) q)
  · exact lv_icmp_gt C.1 C.2.1 d ht (fun q => absurd ((iI_lt hr.1 hr.2).mp q) hc) (fun _ => k2 hh H locs ls hP hD hS hl)
theorem xx_if_gt (C : cx_ G X cc own rm ret nl) (p1 : Nat) (hp : pc + 3 = p1) {a : Int} {off : Int} {tgt : Nat} {t f : Option α} (d : decode cc pc = .ok (.ifCond .gt off, 3)) (ht : (pc : Int) + off = (tgt : Int)) (h : lt_ 0 a t f = some r) (k1 : t = some r → wx_ G X N ad ce μ k n tgt lv st) (k2 : f = some r → wx_ G X N ad ce μ k n p1 lv st) : wx_ G X N ad ce μ k n pc lv (.int (iI a) :: st) := by
  obtain ⟨p, l, e, R, s, m, args, below, meth, c, Q, A, nL⟩ := X
  intro H locs ls hP hD hS hl
  subst hp
  obtain ⟨hr, ⟨hc, hh⟩ | ⟨hc, hh⟩⟩ := lt_e h
  · exact lv_if_gt C.1 C.2.1 d ht (fun _ => k1 hh H locs ls hP hD hS hl) (fun q => absurd ((iI_lt hr.1 hr.2).mpr hc) q)
  · exact lv_if_gt C.1 C.2.1 d ht (fun q => absurd ((iI_lt hr.1 hr.2).mp q) hc) (fun _ => k2 hh H locs ls hP hD hS hl)
theorem xx_icmp_le (C : cx_ G X cc own rm ret nl) (p1 : Nat) (hp : pc + 3 = p1) {a b : Int} {off : Int} {tgt : Nat} {t f : Option α} (d : decode cc pc = .ok (.if_icmp .le off, 3)) (ht : (pc : Int) + off = (tgt : Int)) (h : lt_ b a f t = some r) (k1 : t = some r → wx_ G X N ad ce μ k n tgt lv st) (k2 : f = some r → wx_ G X N ad ce μ k n p1 lv st) : wx_ G X N ad ce μ k n pc lv (.int (iI b) :: .int (iI a) :: st) := by
  obtain ⟨p, l, e, R, s, m, args, below, meth, c, Q, A, nL⟩ := X
  intro H locs ls hP hD hS hl
  subst hp
  obtain ⟨hr, ⟨hc, hh⟩ | ⟨hc, hh⟩⟩ := lt_e h
  · exact lv_icmp_le C.1 C.2.1 d ht (fun q => absurd ((iI_le hr.2 hr.1).mp q) (by omega)) (fun _ => k2 hh H locs ls hP hD hS hl)
  · exact lv_icmp_le C.1 C.2.1 d ht (fun _ => k1 hh H locs ls hP hD hS hl) (fun q => absurd ((iI_le hr.2 hr.1).mpr (by omega)) q)
theorem xx_if_le (C : cx_ G X cc own rm ret nl) (p1 : Nat) (hp : pc + 3 = p1) {a : Int} {off : Int} {tgt : Nat} {t f : Option α} (d : decode cc pc = .ok (.ifCond .le off, 3)) (ht : (pc : Int) + off = (tgt : Int)) (h : lt_ 0 a f t = some r) (k1 : t = some r → wx_ G X N ad ce μ k n tgt lv st) (k2 : f = some r → wx_ G X N ad ce μ k n p1 lv st) : wx_ G X N ad ce μ k n pc lv (.int (iI a) :: st) := by
  obtain ⟨p, l, e, R, s, m, args, below, meth, c, Q, A, nL⟩ := X
  intro H locs ls hP hD hS hl
  subst hp
  obtain ⟨hr, ⟨hc, hh⟩ | ⟨hc, hh⟩⟩ := lt_e h
  · exact lv_if_le C.1 C.2.1 d ht (fun q => absurd ((iI_le hr.2 hr.1).mp q) (by omega)) (fun _ => k2 hh H locs ls hP hD hS hl)
  · exact lv_if_le C.1 C.2.1 d ht (fun _ => k1 hh H locs ls hP hD hS hl) (fun q => absurd ((iI_le hr.2 hr.1).mpr (by omega)) q)
theorem xx_icmp_eq (C : cx_ G X cc own rm ret nl) (p1 : Nat) (hp : pc + 3 = p1) {a b : Int} {off : Int} {tgt : Nat} {t f : Option α} (d : decode cc pc = .ok (.if_icmp .eq off, 3)) (ht : (pc : Int) + off = (tgt : Int)) (h : eq_ a b t f = some r) (k1 : t = some r → wx_ G X N ad ce μ k n tgt lv st) (k2 : f = some r → wx_ G X N ad ce μ k n p1 lv st) : wx_ G X N ad ce μ k n pc lv (.int (iI b) :: .int (iI a) :: st) := by
  obtain ⟨p, l, e, R, s, m, args, below, meth, c, Q, A, nL⟩ := X
  intro H locs ls hP hD hS hl
  subst hp
  rcases eq_e h with ⟨hc, hh⟩ | ⟨hc, hc2, hh⟩
  · exact lv_icmp_eq C.1 C.2.1 d ht (fun _ => k1 hh H locs ls hP hD hS hl) (fun q => absurd (congrArg iI hc) q)
  · exact lv_icmp_eq C.1 C.2.1 d ht (fun q => absurd q hc) (fun _ => k2 hh H locs ls hP hD hS hl)
theorem xx_if_eq (C : cx_ G X cc own rm ret nl) (p1 : Nat) (hp : pc + 3 = p1) {a : Int} {off : Int} {tgt : Nat} {t f : Option α} (d : decode cc pc = .ok (.ifCond .eq off, 3)) (ht : (pc : Int) + off = (tgt : Int)) (h : eq_ a 0 t f = some r) (k1 : t = some r → wx_ G X N ad ce μ k n tgt lv st) (k2 : f = some r → wx_ G X N ad ce μ k n p1 lv st) : wx_ G X N ad ce μ k n pc lv (.int (iI a) :: st) := by
  obtain ⟨p, l, e, R, s, m, args, below, meth, c, Q, A, nL⟩ := X
  intro H locs ls hP hD hS hl
  subst hp
  rcases eq_e h with ⟨hc, hh⟩ | ⟨hc, hc2, hh⟩
  · exact lv_if_eq C.1 C.2.1 d ht (fun _ => k1 hh H locs ls hP hD hS hl) (fun q => absurd (congrArg iI hc) q)
  · exact lv_if_eq C.1 C.2.1 d ht (fun q => absurd q hc) (fun _ => k2 hh H locs ls hP hD hS hl)
theorem xx_icmp_ne (C : cx_ G X cc own rm ret nl) (p1 : Nat) (hp : pc + 3 = p1) {a b : Int} {off : Int} {tgt : Nat} {t f : Option α} (d : decode cc pc = .ok (.if_icmp .ne off, 3)) (ht : (pc : Int) + off = (tgt : Int)) (h : eq_ a b f t = some r) (k1 : t = some r → wx_ G X N ad ce μ k n tgt lv st) (k2 : f = some r → wx_ G X N ad ce μ k n p1 lv st) : wx_ G X N ad ce μ k n pc lv (.int (iI b) :: .int (iI a) :: st) := by
  obtain ⟨p, l, e, R, s, m, args, below, meth, c, Q, A, nL⟩ := X
  intro H locs ls hP hD hS hl
  subst hp
  rcases eq_e h with ⟨hc, hh⟩ | ⟨hc, hc2, hh⟩
  · exact lv_icmp_ne C.1 C.2.1 d ht (fun q => absurd (congrArg iI hc) q) (fun _ => k2 hh H locs ls hP hD hS hl)
  · exact lv_icmp_ne C.1 C.2.1 d ht (fun _ => k1 hh H locs ls hP hD hS hl) (fun q => (hc q).elim)
theorem xx_if_ne (C : cx_ G X cc own rm ret nl) (p1 : Nat) (hp : pc + 3 = p1) {a : Int} {off : Int} {tgt : Nat} {t f : Option α} (d : decode cc pc = .ok (.ifCond .ne off, 3)) (ht : (pc : Int) + off = (tgt : Int)) (h : eq_ a 0 f t = some r) (k1 : t = some r → wx_ G X N ad ce μ k n tgt lv st) (k2 : f = some r → wx_ G X N ad ce μ k n p1 lv st) : wx_ G X N ad ce μ k n pc lv (.int (iI a) :: st) := by
  obtain ⟨p, l, e, R, s, m, args, below, meth, c, Q, A, nL⟩ := X
  intro H locs ls hP hD hS hl
  subst hp
  rcases eq_e h with ⟨hc, hh⟩ | ⟨hc, hc2, hh⟩
  · exact lv_if_ne C.1 C.2.1 d ht (fun q => absurd (congrArg iI hc) q) (fun _ => k2 hh H locs ls hP hD hS hl)
  · exact lv_if_ne C.1 C.2.1 d ht (fun _ => k1 hh H locs ls hP hD hS hl) (fun q => (hc q).elim)
theorem xx_idiv (C : cx_ G X cc own rm ret nl) (p1 : Nat) (hp : pc + 1 = p1) {a b : Int} {f : Int → Option α} (d : decode cc pc = .ok (.idiv, 1)) (h : dv_ a b f = some r) (kk : ∀ v, f v = some r → wx_ G X N ad ce μ k n p1 lv (.int (iI v) :: st)) : wx_ G X N ad ce μ k n pc lv (.int (iI b) :: .int (iI a) :: st) := by
  obtain ⟨p, l, e, R, s, m, args, below, meth, c, Q, A, nL⟩ := X
  intro H locs ls hP hD hS hl
  subst hp
  obtain ⟨⟨ha, hb, h0⟩, hh⟩ := ck_e h
  have e0 : ¬ iI b = 0 := fun q => h0 ((iI_eq hb (by decide)).mp (q.trans rfl))
  refine lv_idiv C.1 C.2.1 d e0 ?_
  have hk := kk _ hh H locs ls hP hD hS hl
  rw [iI_div ha hb] at hk
  exact hk
theorem xx_irem (C : cx_ G X cc own rm ret nl) (p1 : Nat) (hp : pc + 1 = p1) {a b : Int} {f : Int → Option α} (d : decode cc pc = .ok (.irem, 1)) (h : rm_ a b f = some r) (kk : ∀ v, f v = some r → wx_ G X N ad ce μ k n p1 lv (.int (iI v) :: st)) : wx_ G X N ad ce μ k n pc lv (.int (iI b) :: .int (iI a) :: st) := by
  obtain ⟨p, l, e, R, s, m, args, below, meth, c, Q, A, nL⟩ := X
  intro H locs ls hP hD hS hl
  subst hp
  obtain ⟨⟨ha, hb, h0⟩, hh⟩ := ck_e h
  have e0 : ¬ iI b = 0 := fun q => h0 ((iI_eq hb (by decide)).mp (q.trans rfl))
  refine lv_irem C.1 C.2.1 d e0 ?_
  have hk := kk _ hh H locs ls hP hD hS hl
  rw [iI_rem ha hb] at hk
  exact hk
theorem xx_getr (C : cx_ G X cc own rm ret nl) (p1 : Nat) (hp : pc + 3 = p1) {fs : List Value} {ci : Nat} {Cn : String} {T : u_T} {NF index fi : Nat} {q : Nat} {v : Value} (hq : q < N) (he : ce q (μ q) = .inr (ci, fs)) (hc : vwCl[ci]? = some (Cn, T, NF)) (hin : ∀ w ∈ u_ws Cn T NF, w ∈ gT_) (hk : fi < NF) (hv : fs[fi]? = some v) (hT : (T fi).1 = Cn) (hlink : Cond.fieldLink own index Cn (T fi).2.1 (T fi).2.2.1 ∈ gT_) (d : decode cc pc = .ok (.getfield index, 3)) (h : wx_ G X N ad ce μ k n p1 lv (v :: st)) : wx_ G X N ad ce μ k n pc lv (.ref (ad q) :: st) := by
  obtain ⟨p, l, e, R, s, m, args, below, meth, c, Q, A, nL⟩ := X
  intro H locs ls hP hD hS hl
  subst hp
  exact va_get (C := Cn) (T := T) (N := NF) (ref := Cn) C.1 C.2.1 C.2.2.1 hin C.2.2.2.1 C.2.2.2.2.1 hP q ((wl_get hq).trans (by rw [he])) hc fi hk (C.2.2.1 _ hlink) (fun x h9 => by rw [hT] at h9; exact h9) hv d (h H locs ls hP hD hS hl)
theorem xx_geti (C : cx_ G X cc own rm ret nl) (p1 : Nat) (hp : pc + 3 = p1) {fs : List Value} {ci : Nat} {Cn : String} {T : u_T} {NF index fi : Nat} {q : Nat} {j : Int} {f : Int → Option α} (hq : q < N) (he : ce q (μ q) = .inr (ci, fs)) (hc : vwCl[ci]? = some (Cn, T, NF)) (hin : ∀ w ∈ u_ws Cn T NF, w ∈ gT_) (hk : fi < NF) (hv : fs[fi]? = some (.int (iI (μ q j)))) (hT : (T fi).1 = Cn) (hlink : Cond.fieldLink own index Cn (T fi).2.1 (T fi).2.2.1 ∈ gT_) (d : decode cc pc = .ok (.getfield index, 3)) (h : nm_ (μ q j) f = some r) (kk : ∀ v, f v = some r → wx_ G X N ad ce μ k n p1 lv (.int (iI v) :: st)) : wx_ G X N ad ce μ k n pc lv (.ref (ad q) :: st) := by
  obtain ⟨p, l, e, R, s, m, args, below, meth, c, Q, A, nL⟩ := X
  intro H locs ls hP hD hS hl
  subst hp
  exact va_get (C := Cn) (T := T) (N := NF) (ref := Cn) C.1 C.2.1 C.2.2.1 hin C.2.2.2.1 C.2.2.2.2.1 hP q ((wl_get hq).trans (by rw [he])) hc fi hk (C.2.2.1 _ hlink) (fun x h9 => by rw [hT] at h9; exact h9) hv d (kk _ h H locs ls hP hD hS hl)
theorem xx_puti (C : cx_ G X cc own rm ret nl) (p1 : Nat) (hp : pc + 3 = p1) {fs : List Value} {ci : Nat} {Cn : String} {T : u_T} {NF index fi : Nat} {q : Nat} {j v : Int} {f : mu_T → Option α} (hq : q < N) (he : ce q (μ q) = .inr (ci, fs)) (he2 : ce q (ur_ (μ q) j v) = .inr (ci, fs.set fi (.int (iI v)))) (hc : vwCl[ci]? = some (Cn, T, NF)) (hin : ∀ w ∈ u_ws Cn T NF, w ∈ gT_) (tyf : Nat → FieldType) (hty : ∀ k, k < NF → parseFieldDescriptor (T k).2.2.1 = some (tyf k)) (hnm : ∀ a, a < NF → ∀ b, b < NF → a ≠ b → (T a).2.1 ≠ (T b).2.1) (hk : fi < NF) (hl0 : fi < fs.length) (hT : (T fi).1 = Cn ∧ (T fi).2.2.2 = false ∧ parseFieldDescriptor (T fi).2.2.1 = some .int) (hlink : Cond.fieldLink own index Cn (T fi).2.1 (T fi).2.2.1 ∈ gT_) (d : decode cc pc = .ok (.putfield index, 3)) (h : wf_ μ q j v f = some r) (kk : ∀ μ1, f μ1 = some r → wx_ G X N ad ce μ1 k n p1 lv st) : wx_ G X N ad ce μ k n pc lv (.int (iI v) :: .ref (ad q) :: st) := by
  obtain ⟨p, l, e, R, s, m, args, below, meth, c, Q, A, nL⟩ := X
  intro H locs ls hP hD hS hl
  subst hp
  refine va_put (C := Cn) (T := T) (N := NF) (ref := Cn) (ty := .int) C.1 C.2.1 C.2.2.1 hin tyf hty hnm C.2.2.2.1 C.2.2.2.2.1 hP hD hS q ((wl_get hq).trans (by rw [he])) hc fi hk (C.2.2.1 _ hlink) (fun x h9 => by rw [hT.1] at h9; exact h9) hT.2.1 hT.2.2 rfl (by first | rfl | (rcases hz with rfl | rfl <;> rfl)) hl0 d (fun H1 locs1 hP1 hD1 hS1 => ?_)
  rw [← he2, wl_set] at hP1 hD1
  exact kk _ h H1 locs1 ls hP1 hD1 hS1 hl
theorem xx_putz (C : cx_ G X cc own rm ret nl) (p1 : Nat) (hp : pc + 3 = p1) {fs : List Value} {ci : Nat} {Cn : String} {T : u_T} {NF index fi : Nat} {q : Nat} {j v : Int} {f : mu_T → Option α} (hq : q < N) (he : ce q (μ q) = .inr (ci, fs)) (he2 : ce q (ur_ (μ q) j v) = .inr (ci, fs.set fi (.int (iI v)))) (hc : vwCl[ci]? = some (Cn, T, NF)) (hin : ∀ w ∈ u_ws Cn T NF, w ∈ gT_) (tyf : Nat → FieldType) (hty : ∀ k, k < NF → parseFieldDescriptor (T k).2.2.1 = some (tyf k)) (hnm : ∀ a, a < NF → ∀ b, b < NF → a ≠ b → (T a).2.1 ≠ (T b).2.1) (hk : fi < NF) (hl0 : fi < fs.length) (hT : (T fi).1 = Cn ∧ (T fi).2.2.2 = false ∧ parseFieldDescriptor (T fi).2.2.1 = some .boolean) (hlink : Cond.fieldLink own index Cn (T fi).2.1 (T fi).2.2.1 ∈ gT_) (d : decode cc pc = .ok (.putfield index, 3)) (h : wz_ μ q j v f = some r) (kk : ∀ μ1, f μ1 = some r → wx_ G X N ad ce μ1 k n p1 lv st) : wx_ G X N ad ce μ k n pc lv (.int (iI v) :: .ref (ad q) :: st) := by
  obtain ⟨p, l, e, R, s, m, args, below, meth, c, Q, A, nL⟩ := X
  intro H locs ls hP hD hS hl
  subst hp
  obtain ⟨hz, h⟩ := ck_e h
  refine va_put (C := Cn) (T := T) (N := NF) (ref := Cn) (ty := .boolean) C.1 C.2.1 C.2.2.1 hin tyf hty hnm C.2.2.2.1 C.2.2.2.2.1 hP hD hS q ((wl_get hq).trans (by rw [he])) hc fi hk (C.2.2.1 _ hlink) (fun x h9 => by rw [hT.1] at h9; exact h9) hT.2.1 hT.2.2 (by rcases hz with rfl | rfl <;> rfl) (by first | rfl | (rcases hz with rfl | rfl <;> rfl)) hl0 d (fun H1 locs1 hP1 hD1 hS1 => ?_)
  rw [← he2, wl_set] at hP1 hD1
  exact kk _ h H1 locs1 ls hP1 hD1 hS1 hl
theorem xx_iaload (C : cx_ G X cc own rm ret nl) (p1 : Nat) (hp : pc + 1 = p1) {nA : Nat} {q : Nat} {i : Int} {f : Int → Option α} (hq : q < N) (he : ∀ row, ce q row = .inl (G.1.1 100, nA, .inl (fun j => iI (row (j : Nat))))) (hn : nA < 2147483648) (d : decode cc pc = .ok (.iaload, 1)) (h : rd_ μ q nA i f = some r) (kk : ∀ v, f v = some r → wx_ G X N ad ce μ k n p1 lv (.int (iI v) :: st)) : wx_ G X N ad ce μ k n pc lv (.int (iI i) :: .ref (ad q) :: st) := by
  obtain ⟨p, l, e, R, s, m, args, below, meth, c, Q, A, nL⟩ := X
  intro H locs ls hP hD hS hl
  subst hp
  obtain ⟨⟨h0, h1⟩, h⟩ := ck_e h
  refine va_iald C.1 C.2.1 C.2.2.2.2.1 hP q 0 ((wl_get hq).trans (by rw [he])) rfl (iI_in h0 h1 hn) d ?_
  have e1 : (((iI i).toNatClampNeg : Nat) : Int) = i := by rw [iI_clamp (by omega)]; omega
  show W _ _ _ _ _ _ _ _ _ _ _ _ _ _ _ (F0 m (pc + 1) ls (.int (iI (μ q (((iI i).toNatClampNeg : Nat) : Int))) :: st))
  rw [e1]
  exact kk _ h H locs ls hP hD hS hl
theorem xx_iastore (C : cx_ G X cc own rm ret nl) (p1 : Nat) (hp : pc + 1 = p1) {nA : Nat} {q : Nat} {i v : Int} {f : mu_T → Option α} (hq : q < N) (he : ∀ row, ce q row = .inl (G.1.1 100, nA, .inl (fun j => iI (row (j : Nat))))) (hn : nA < 2147483648) (d : decode cc pc = .ok (.iastore, 1)) (h : wr_ μ q nA i v f = some r) (kk : ∀ μ1, f μ1 = some r → wx_ G X N ad ce μ1 k n p1 lv st) : wx_ G X N ad ce μ k n pc lv (.int (iI v) :: .int (iI i) :: .ref (ad q) :: st) := by
  obtain ⟨p, l, e, R, s, m, args, below, meth, c, Q, A, nL⟩ := X
  intro H locs ls hP hD hS hl
  subst hp
  obtain ⟨⟨h0, h1⟩, h⟩ := ck_e h
  refine va_iast C.1 C.2.1 C.2.2.2.2.1 hP hD hS q 0 ((wl_get hq).trans (by rw [he])) rfl (iI_in h0 h1 hn) d (fun H1 locs1 hP1 hD1 hS1 => ?_)
  have e1 : (upd (fun j : Nat => iI (μ q (j : Int))) (iI i).toNatClampNeg (iI v)) = fun j : Nat => iI (ur_ (μ q) i v (j : Int)) := by
    funext j
    rw [iI_clamp (by omega)]
    unfold upd ur_
    by_cases hj : j = i.toNat
    · rw [if_pos hj, if_pos (by omega)]
    · rw [if_neg hj, if_neg (by omega)]
  rw [e1, ← he, wl_set] at hP1 hD1
  exact kk _ h H1 locs1 ls hP1 hD1 hS1 hl
theorem xx_alen (C : cx_ G X cc own rm ret nl) (p1 : Nat) (hp : pc + 1 = p1) {nA : Nat} {q : Nat} (hq : q < N) (he : ∀ row, ce q row = .inl (G.1.1 100, nA, .inl (fun j => iI (row (j : Nat))))) (d : decode cc pc = .ok (.arraylength, 1)) (h : wx_ G X N ad ce μ k n p1 lv (.int (iI nA) :: st)) : wx_ G X N ad ce μ k n pc lv (.ref (ad q) :: st) := by
  obtain ⟨p, l, e, R, s, m, args, below, meth, c, Q, A, nL⟩ := X
  intro H locs ls hP hD hS hl
  subst hp
  exact va_alen C.1 C.2.1 C.2.2.2.2.1 hP q 0 ((wl_get hq).trans (by rw [he])) rfl (iI_nat nA) d (h H locs ls hP hD hS hl)
theorem xx_iret (C : cx_ G X cc own rm ret nl) {e0 a : Int} {μ2 : mu_T} (E : ei_ G X N ad ce a μ2 rm) (hr : ret = some .int) (hk : k ≤ rm.cells ∧ n ≤ rm.slots) (d : decode cc pc = .ok (.ireturn, 1)) (h : some (e0, μ) = some (a, μ2)) : wx_ G X N ad ce μ k n pc lv [.int (iI e0)] := by
  obtain ⟨p, l, e, R, s, m, args, below, meth, c, Q, A, nL⟩ := X
  intro H locs ls hP hD hS hl
  obtain ⟨rfl, rfl⟩ := Prod.mk.inj (Option.some.inj h)
  obtain ⟨hx, hb, -, -, hK, -, -, hlocks, -, -, hrt, -, -⟩ := C
  subst hr
  rw [show Q = _ from E]
  refine W.widen hk.1 hk.2 ?_
  exact W.iret hx hb hrt (fun t ht hW => ⟨⟨_, (), rfl, rfl, by rw [ht]; exact hP, va_K.moved hW.alike hK, hD⟩, hS.F ht⟩) hS.2.2 d hlocks
theorem xx_zret (C : cx_ G X cc own rm ret nl) {e0 a : Int} {μ2 : mu_T} {ty : FieldType} (E : ei_ G X N ad ce a μ2 rm) (hr : ret = some ty) (hz : narrow ty (.int (iI e0)) = .int (iI e0)) (hk : k ≤ rm.cells ∧ n ≤ rm.slots) (d : decode cc pc = .ok (.ireturn, 1)) (h : some (e0, μ) = some (a, μ2)) : wx_ G X N ad ce μ k n pc lv [.int (iI e0)] := by
  obtain ⟨p, l, e, R, s, m, args, below, meth, c, Q, A, nL⟩ := X
  intro H locs ls hP hD hS hl
  obtain ⟨rfl, rfl⟩ := Prod.mk.inj (Option.some.inj h)
  obtain ⟨hx, hb, -, -, hK, -, -, hlocks, -, -, hrt, -, -⟩ := C
  subst hr
  rw [show Q = _ from E]
  refine W.widen hk.1 hk.2 ?_
  exact W.zret hx hb hrt hz (fun t ht hW => ⟨⟨_, (), rfl, rfl, by rw [ht]; exact hP, va_K.moved hW.alike hK, hD⟩, hS.F ht⟩) hS.2.2 d hlocks
theorem xx_zretz (C : cx_ G X cc own rm ret nl) {e0 a : Int} {μ2 : mu_T} (E : ei_ G X N ad ce a μ2 rm) (hr : ret = some .boolean) (hk : k ≤ rm.cells ∧ n ≤ rm.slots) (d : decode cc pc = .ok (.ireturn, 1)) (h : rz_ e0 μ = some (a, μ2)) : wx_ G X N ad ce μ k n pc lv [.int (iI e0)] := by
  obtain ⟨hz, h⟩ := ck_e h
  exact xx_zret C E hr (by rcases hz with rfl | rfl <;> rfl) hk d h
theorem xx_iretp (C : cx_ G X cc own rm ret nl) {e0 a : Int} (E : ei_ G X N ad ce a μ rm) (hr : ret = some .int) (hk : k ≤ rm.cells ∧ n ≤ rm.slots) (d : decode cc pc = .ok (.ireturn, 1)) (h : some e0 = some a) : wx_ G X N ad ce μ k n pc lv [.int (iI e0)] := xx_iret C E hr hk d (by rw [Option.some.inj h])
theorem xx_zretp (C : cx_ G X cc own rm ret nl) {e0 a : Int} (E : ei_ G X N ad ce a μ rm) (hr : ret = some .boolean) (hk : k ≤ rm.cells ∧ n ≤ rm.slots) (d : decode cc pc = .ok (.ireturn, 1)) (h : ry_ e0 = some a) : wx_ G X N ad ce μ k n pc lv [.int (iI e0)] := by
  obtain ⟨hz, h⟩ := ck_e h
  exact xx_zret C E hr (by rcases hz with rfl | rfl <;> rfl) hk d (by rw [Option.some.inj h])
theorem xx_vret (C : cx_ G X cc own rm ret nl) {μ2 : mu_T} (E : ev_ G X N ad ce μ2 rm) (hr : ret = none) (hk : k ≤ rm.cells ∧ n ≤ rm.slots) (d : decode cc pc = .ok (.return_, 1)) (h : some μ = some μ2) : wx_ G X N ad ce μ k n pc lv [] := by
  obtain ⟨p, l, e, R, s, m, args, below, meth, c, Q, A, nL⟩ := X
  intro H locs ls hP hD hS hl
  obtain rfl := Option.some.inj h
  obtain ⟨hx, hb, -, -, hK, -, -, hlocks, -, -, hrt, -, -⟩ := C
  subst hr
  rw [show Q = _ from E]
  refine W.widen hk.1 hk.2 ?_
  exact W.vret hx hb hrt (fun t ht hW => ⟨⟨(), rfl, trivial, by rw [ht]; exact hP, va_K.moved hW.alike hK, hD⟩, hS.F ht⟩) hS.2.2 d hlocks
/-- what the tables say of a callee -/
def ca_ (y : MethodName) (bytes : ByteArray) (maxL : Nat) (ret2 : Option FieldType) (nA : Nat) : Prop := Cond.initialized y.cls ∈ gT_ ∧ Cond.code y bytes maxL ret2 ∈ gT_ ∧ (y.cls ≠ "java/lang/invoke/MethodHandle" ∧ y.cls ≠ "java/lang/invoke/VarHandle" ∧ (parseMethodDescriptor y.desc).map (fun d => d.parameters.length) = some nA)
def cv_ (y : MethodName) : Prop := Cond.instanceMethod y ∈ gT_ ∧ Cond.selects y.cls y y ∈ gT_
theorem gT_in {bytes : ByteArray} {y : MethodName} {maxL : Nat} {ret2 : Option FieldType} (h : Cond.code y bytes maxL ret2 ∈ gT_) : GoodIn gT_ (Cond.code y bytes maxL ret2 :: gT_) := fun w hw => by
  rcases List.mem_cons.mp hw with rfl | hw
  · exact ⟨h, gT_good h⟩
  · exact ⟨hw, gT_good hw⟩
theorem xx_cVi (C : cx_ G X cc own rm ret nl) (p1 : Nat) (hp : pc + 3 = p1) {F : Option (Int × mu_T)} {f : Int → mu_T → Option α} {y : MethodName} {bytes : ByteArray} {maxL nA index : Nat} {ret2 : Option FieldType} {rm2 : Room} {As : List Value} {ci o : Nat} {fs : List Value} {qc : vw_C} (ho : o < N) (he : ce o (μ o) = .inr (ci, fs)) (hc : vwCl[ci]? = some qc) (hcl : qc.1 = y.cls) (hca : ca_ y bytes maxL ret2 nA) (hcv : cv_ y) (m1 : Cond.methodLink own index y ∈ gT_) (hn : As.length = nA) (hR : rm2.frames + 1 ≤ rm.frames ∧ 8 + (maxL + 11) + rm2.locals ≤ rm.locals) (hf : k + rm2.cells ≤ rm.cells ∧ n + rm2.slots ≤ rm.slots) (hW : (st.map fun v => v.category).sum ≤ 8) (d : decode cc pc = .ok (.invokevirtual index, 3)) (hM : ∀ a μ1, F = some (a, μ1) → mi_ y bytes maxL ret2 rm2 G N ad ce (.ref (ad o) :: As) μ a μ1) (h : bp_ F f = some r) (kk : ∀ a μ1, f a μ1 = some r → wx_ G X N ad ce μ1 (k + rm2.cells) (n + rm2.slots) p1 lv (.int (iI a) :: st)) (hst : stk = As.reverse ++ .ref (ad o) :: st) : wx_ G X N ad ce μ k n pc lv stk := by
  obtain ⟨p, l, e, R, s, m, args, below, meth, c, Q, A, nL⟩ := X
  intro H locs ls hP hD hS hl
  subst hp
  have hts := C.2.2.1
  have hK := C.2.2.2.2.1
  have hA := C.2.2.2.2.2.1
  have hAb := C.2.2.2.2.2.2.2.2.1
  have hR' : R = rm := C.2.2.2.2.2.2.2.2.2.1
  have hg := C.2.2.2.2.2.2.2.2.2.2.2.1
  subst hR'
  have hsz : G.2.2 ≤ H.size := by
    have h1 := hAb s.heap.size (hA _ (Nat.le_refl _))
    exact Nat.le_trans h1 hS.1
  have hDb : va_D (fun q => G.2.2 ≤ q) (wl_ N ad ce μ) := hD.weaken (fun _ q _ h => hAb q.1 h)
  have hgH : gk_ G s H := gk_kept hg (fun a h1 h2 => hS.2.1 a h1 (fun q => h2 (hAb a q)))
  have hF : ∀ q, va_A (wl_ N ad ce μ) H.size q → A q := fun q h => by
    rcases h with ⟨j, e9, h⟩ | h
    · exact hD.2 j _ h
    · exact hA q (Nat.le_trans hS.1 h)
  have hpre : ∀ U : State, U.heap = H → s.WarmedH U.vm → pr_ G N ad ce μ H.size U := fun U hU hW9 => ⟨by rw [hU], by rw [hU]; exact hP, va_K.moved hW9.alike hK, hDb, hsz, by rw [hU]; exact gk_moved hW9.alike hgH⟩
  subst hst
  obtain ⟨a9, μ9, e9, h⟩ := bp_e h
  have hM9 := hM a9 μ9 e9 l H.size
  have hpreV : ∀ U : State, U.heap = H → s.WarmedH U.vm → va_Pc (.ref (ad o) :: As) (pr_ G N ad ce μ H.size) (Value.ref (ad o) :: As).toArray U := fun U hU hW9 => ⟨rfl, hpre U hU hW9⟩
  refine va_calli (va_runV (rest := st) ⟨C.1, C.2.1, C.2.2.2.2.2.2.1, C.2.2.2.1, hts⟩ hM9 ⟨callB_of nA hts (gT_in hca.2.1) rfl rfl rfl (hts _ hca.1) (hts _ m1) hca.2.2 hR, hts _ hcv.1, hts _ hcv.2⟩ ⟨(fun a U g mk q => by obtain ⟨q0, q1, qP, qK, qD, q2, q3⟩ := q; exact ⟨q0, q1, qP, va_K.moved (u := U) (U := U.calling g mk a) (Vm.Alike.refl U.vm) qK, qD, q2, gk_moved (u := U) (U := U.calling g mk a) (Vm.Alike.refl U.vm) q3⟩), (by have h9 := va_recv hK hP hc ((wl_get ho).trans (by rw [he])); rw [hcl] at h9; exact h9), hpreV⟩ rfl hn hl.1 rfl (lv_room hW) d hf) hS (fun q _ h => hF q h) hF (fun r9 u t H1 locs1 ht hvm hw hB hz1 hk1 hS1 => ?_)
  obtain ⟨hP1, hK1, hD1⟩ := hB
  rw [ht] at hP1
  rw [hw]
  exact kk a9 μ9 h H1 locs1 ls hP1 (hD1.weaken (fun _ q _ h => hF q.1 h)) hS1 hl
theorem xx_cVip (C : cx_ G X cc own rm ret nl) (p1 : Nat) (hp : pc + 3 = p1) {F : Option Int} {f : Int → Option α} {y : MethodName} {bytes : ByteArray} {maxL nA index : Nat} {ret2 : Option FieldType} {rm2 : Room} {As : List Value} {ci o : Nat} {fs : List Value} {qc : vw_C} (ho : o < N) (he : ce o (μ o) = .inr (ci, fs)) (hc : vwCl[ci]? = some qc) (hcl : qc.1 = y.cls) (hca : ca_ y bytes maxL ret2 nA) (hcv : cv_ y) (m1 : Cond.methodLink own index y ∈ gT_) (hn : As.length = nA) (hR : rm2.frames + 1 ≤ rm.frames ∧ 8 + (maxL + 11) + rm2.locals ≤ rm.locals) (hf : k + rm2.cells ≤ rm.cells ∧ n + rm2.slots ≤ rm.slots) (hW : (st.map fun v => v.category).sum ≤ 8) (d : decode cc pc = .ok (.invokevirtual index, 3)) (hM : ∀ a, F = some a → mi_ y bytes maxL ret2 rm2 G N ad ce (.ref (ad o) :: As) μ a μ) (h : bd_ F f = some r) (kk : ∀ a, f a = some r → wx_ G X N ad ce μ (k + rm2.cells) (n + rm2.slots) p1 lv (.int (iI a) :: st)) (hst : stk = As.reverse ++ .ref (ad o) :: st) : wx_ G X N ad ce μ k n pc lv stk := by
  obtain ⟨p, l, e, R, s, m, args, below, meth, c, Q, A, nL⟩ := X
  intro H locs ls hP hD hS hl
  subst hp
  have hts := C.2.2.1
  have hK := C.2.2.2.2.1
  have hA := C.2.2.2.2.2.1
  have hAb := C.2.2.2.2.2.2.2.2.1
  have hR' : R = rm := C.2.2.2.2.2.2.2.2.2.1
  have hg := C.2.2.2.2.2.2.2.2.2.2.2.1
  subst hR'
  have hsz : G.2.2 ≤ H.size := by
    have h1 := hAb s.heap.size (hA _ (Nat.le_refl _))
    exact Nat.le_trans h1 hS.1
  have hDb : va_D (fun q => G.2.2 ≤ q) (wl_ N ad ce μ) := hD.weaken (fun _ q _ h => hAb q.1 h)
  have hgH : gk_ G s H := gk_kept hg (fun a h1 h2 => hS.2.1 a h1 (fun q => h2 (hAb a q)))
  have hF : ∀ q, va_A (wl_ N ad ce μ) H.size q → A q := fun q h => by
    rcases h with ⟨j, e9, h⟩ | h
    · exact hD.2 j _ h
    · exact hA q (Nat.le_trans hS.1 h)
  have hpre : ∀ U : State, U.heap = H → s.WarmedH U.vm → pr_ G N ad ce μ H.size U := fun U hU hW9 => ⟨by rw [hU], by rw [hU]; exact hP, va_K.moved hW9.alike hK, hDb, hsz, by rw [hU]; exact gk_moved hW9.alike hgH⟩
  subst hst
  obtain ⟨a9, e9, h⟩ := bd_e h
  have hM9 := hM a9 e9 l H.size
  have hpreV : ∀ U : State, U.heap = H → s.WarmedH U.vm → va_Pc (.ref (ad o) :: As) (pr_ G N ad ce μ H.size) (Value.ref (ad o) :: As).toArray U := fun U hU hW9 => ⟨rfl, hpre U hU hW9⟩
  refine va_calli (va_runV (rest := st) ⟨C.1, C.2.1, C.2.2.2.2.2.2.1, C.2.2.2.1, hts⟩ hM9 ⟨callB_of nA hts (gT_in hca.2.1) rfl rfl rfl (hts _ hca.1) (hts _ m1) hca.2.2 hR, hts _ hcv.1, hts _ hcv.2⟩ ⟨(fun a U g mk q => by obtain ⟨q0, q1, qP, qK, qD, q2, q3⟩ := q; exact ⟨q0, q1, qP, va_K.moved (u := U) (U := U.calling g mk a) (Vm.Alike.refl U.vm) qK, qD, q2, gk_moved (u := U) (U := U.calling g mk a) (Vm.Alike.refl U.vm) q3⟩), (by have h9 := va_recv hK hP hc ((wl_get ho).trans (by rw [he])); rw [hcl] at h9; exact h9), hpreV⟩ rfl hn hl.1 rfl (lv_room hW) d hf) hS (fun q _ h => hF q h) hF (fun r9 u t H1 locs1 ht hvm hw hB hz1 hk1 hS1 => ?_)
  obtain ⟨hP1, hK1, hD1⟩ := hB
  rw [ht] at hP1
  rw [hw]
  exact kk a9 h H1 locs1 ls hP1 (hD1.weaken (fun _ q _ h => hF q.1 h)) hS1 hl
theorem xx_cVv (C : cx_ G X cc own rm ret nl) (p1 : Nat) (hp : pc + 3 = p1) {F : Option mu_T} {f : mu_T → Option α} {y : MethodName} {bytes : ByteArray} {maxL nA index : Nat} {rm2 : Room} {As : List Value} {ci o : Nat} {fs : List Value} {qc : vw_C} (ho : o < N) (he : ce o (μ o) = .inr (ci, fs)) (hc : vwCl[ci]? = some qc) (hcl : qc.1 = y.cls) (hca : ca_ y bytes maxL none nA) (hcv : cv_ y) (m1 : Cond.methodLink own index y ∈ gT_) (hn : As.length = nA) (hR : rm2.frames + 1 ≤ rm.frames ∧ 8 + (maxL + 11) + rm2.locals ≤ rm.locals) (hf : k + rm2.cells ≤ rm.cells ∧ n + rm2.slots ≤ rm.slots) (hW : (st.map fun v => v.category).sum ≤ 8) (d : decode cc pc = .ok (.invokevirtual index, 3)) (hM : ∀ μ1, F = some μ1 → mv_ y bytes maxL rm2 G N ad ce (.ref (ad o) :: As) μ μ1) (h : bd_ F f = some r) (kk : ∀ μ1, f μ1 = some r → wx_ G X N ad ce μ1 (k + rm2.cells) (n + rm2.slots) p1 lv st) (hst : stk = As.reverse ++ .ref (ad o) :: st) : wx_ G X N ad ce μ k n pc lv stk := by
  obtain ⟨p, l, e, R, s, m, args, below, meth, c, Q, A, nL⟩ := X
  intro H locs ls hP hD hS hl
  subst hp
  have hts := C.2.2.1
  have hK := C.2.2.2.2.1
  have hA := C.2.2.2.2.2.1
  have hAb := C.2.2.2.2.2.2.2.2.1
  have hR' : R = rm := C.2.2.2.2.2.2.2.2.2.1
  have hg := C.2.2.2.2.2.2.2.2.2.2.2.1
  subst hR'
  have hsz : G.2.2 ≤ H.size := by
    have h1 := hAb s.heap.size (hA _ (Nat.le_refl _))
    exact Nat.le_trans h1 hS.1
  have hDb : va_D (fun q => G.2.2 ≤ q) (wl_ N ad ce μ) := hD.weaken (fun _ q _ h => hAb q.1 h)
  have hgH : gk_ G s H := gk_kept hg (fun a h1 h2 => hS.2.1 a h1 (fun q => h2 (hAb a q)))
  have hF : ∀ q, va_A (wl_ N ad ce μ) H.size q → A q := fun q h => by
    rcases h with ⟨j, e9, h⟩ | h
    · exact hD.2 j _ h
    · exact hA q (Nat.le_trans hS.1 h)
  have hpre : ∀ U : State, U.heap = H → s.WarmedH U.vm → pr_ G N ad ce μ H.size U := fun U hU hW9 => ⟨by rw [hU], by rw [hU]; exact hP, va_K.moved hW9.alike hK, hDb, hsz, by rw [hU]; exact gk_moved hW9.alike hgH⟩
  subst hst
  obtain ⟨a9, e9, h⟩ := bd_e h
  have hM9 := hM a9 e9 l H.size
  have hpreV : ∀ U : State, U.heap = H → s.WarmedH U.vm → va_Pc (.ref (ad o) :: As) (pr_ G N ad ce μ H.size) (Value.ref (ad o) :: As).toArray U := fun U hU hW9 => ⟨rfl, hpre U hU hW9⟩
  refine va_callv (va_runV (rest := st) ⟨C.1, C.2.1, C.2.2.2.2.2.2.1, C.2.2.2.1, hts⟩ hM9 ⟨callB_of nA hts (gT_in hca.2.1) rfl rfl rfl (hts _ hca.1) (hts _ m1) hca.2.2 hR, hts _ hcv.1, hts _ hcv.2⟩ ⟨(fun a U g mk q => by obtain ⟨q0, q1, qP, qK, qD, q2, q3⟩ := q; exact ⟨q0, q1, qP, va_K.moved (u := U) (U := U.calling g mk a) (Vm.Alike.refl U.vm) qK, qD, q2, gk_moved (u := U) (U := U.calling g mk a) (Vm.Alike.refl U.vm) q3⟩), (by have h9 := va_recv hK hP hc ((wl_get ho).trans (by rw [he])); rw [hcl] at h9; exact h9), hpreV⟩ rfl hn hl.1 rfl (lv_room hW) d hf) hS (fun q _ h => hF q h) hF (fun u t H1 locs1 ht hvm hw hB hz1 hk1 hS1 => ?_)
  obtain ⟨hP1, hK1, hD1⟩ := hB
  rw [ht] at hP1
  exact kk a9 h H1 locs1 ls hP1 (hD1.weaken (fun _ q _ h => hF q.1 h)) hS1 hl
theorem xx_cSi (C : cx_ G X cc own rm ret nl) (p1 : Nat) (hp : pc + 3 = p1) {F : Option (Int × mu_T)} {f : Int → mu_T → Option α} {y : MethodName} {bytes : ByteArray} {maxL nA index : Nat} {ret2 : Option FieldType} {rm2 : Room} {As : List Value} (hca : ca_ y bytes maxL ret2 nA) (hcv : Cond.static y ∈ gT_) (m1 : Cond.methodLink own index y ∈ gT_) (hn : As.length = nA) (hR : rm2.frames + 1 ≤ rm.frames ∧ 8 + (maxL + 11) + rm2.locals ≤ rm.locals) (hf : k + rm2.cells ≤ rm.cells ∧ n + rm2.slots ≤ rm.slots) (hW : (st.map fun v => v.category).sum ≤ 8) (d : decode cc pc = .ok (.invokestatic index, 3)) (hM : ∀ a μ1, F = some (a, μ1) → mi_ y bytes maxL ret2 rm2 G N ad ce As μ a μ1) (h : bp_ F f = some r) (kk : ∀ a μ1, f a μ1 = some r → wx_ G X N ad ce μ1 (k + rm2.cells) (n + rm2.slots) p1 lv (.int (iI a) :: st)) (hst : stk = As.reverse ++ st) : wx_ G X N ad ce μ k n pc lv stk := by
  obtain ⟨p, l, e, R, s, m, args, below, meth, c, Q, A, nL⟩ := X
  intro H locs ls hP hD hS hl
  subst hp
  have hts := C.2.2.1
  have hK := C.2.2.2.2.1
  have hA := C.2.2.2.2.2.1
  have hAb := C.2.2.2.2.2.2.2.2.1
  have hR' : R = rm := C.2.2.2.2.2.2.2.2.2.1
  have hg := C.2.2.2.2.2.2.2.2.2.2.2.1
  subst hR'
  have hsz : G.2.2 ≤ H.size := by
    have h1 := hAb s.heap.size (hA _ (Nat.le_refl _))
    exact Nat.le_trans h1 hS.1
  have hDb : va_D (fun q => G.2.2 ≤ q) (wl_ N ad ce μ) := hD.weaken (fun _ q _ h => hAb q.1 h)
  have hgH : gk_ G s H := gk_kept hg (fun a h1 h2 => hS.2.1 a h1 (fun q => h2 (hAb a q)))
  have hF : ∀ q, va_A (wl_ N ad ce μ) H.size q → A q := fun q h => by
    rcases h with ⟨j, e9, h⟩ | h
    · exact hD.2 j _ h
    · exact hA q (Nat.le_trans hS.1 h)
  have hpre : ∀ U : State, U.heap = H → s.WarmedH U.vm → pr_ G N ad ce μ H.size U := fun U hU hW9 => ⟨by rw [hU], by rw [hU]; exact hP, va_K.moved hW9.alike hK, hDb, hsz, by rw [hU]; exact gk_moved hW9.alike hgH⟩
  subst hst
  obtain ⟨a9, μ9, e9, h⟩ := bp_e h
  have hM9 := hM a9 μ9 e9 l H.size
  have hpreV : ∀ U : State, U.heap = H → s.WarmedH U.vm → va_Pc As (pr_ G N ad ce μ H.size) (As).toArray U := fun U hU hW9 => ⟨rfl, hpre U hU hW9⟩
  refine va_calli (va_runS (rest := st) ⟨C.1, C.2.1, C.2.2.2.2.2.2.1, C.2.2.2.1, hts⟩ hM9 ⟨callB_of nA hts (gT_in hca.2.1) rfl rfl rfl (hts _ hca.1) (hts _ m1) hca.2.2 hR, hts _ hcv⟩ ⟨(fun a U g mk q => by obtain ⟨q0, q1, qP, qK, qD, q2, q3⟩ := q; exact ⟨q0, q1, qP, va_K.moved (u := U) (U := U.calling g mk a) (Vm.Alike.refl U.vm) qK, qD, q2, gk_moved (u := U) (U := U.calling g mk a) (Vm.Alike.refl U.vm) q3⟩), hpreV⟩ rfl hn hl.1 rfl (lv_room hW) d hf) hS (fun q _ h => hF q h) hF (fun r9 u t H1 locs1 ht hvm hw hB hz1 hk1 hS1 => ?_)
  obtain ⟨hP1, hK1, hD1⟩ := hB
  rw [ht] at hP1
  rw [hw]
  exact kk a9 μ9 h H1 locs1 ls hP1 (hD1.weaken (fun _ q _ h => hF q.1 h)) hS1 hl
theorem xx_cSip (C : cx_ G X cc own rm ret nl) (p1 : Nat) (hp : pc + 3 = p1) {F : Option Int} {f : Int → Option α} {y : MethodName} {bytes : ByteArray} {maxL nA index : Nat} {ret2 : Option FieldType} {rm2 : Room} {As : List Value} (hca : ca_ y bytes maxL ret2 nA) (hcv : Cond.static y ∈ gT_) (m1 : Cond.methodLink own index y ∈ gT_) (hn : As.length = nA) (hR : rm2.frames + 1 ≤ rm.frames ∧ 8 + (maxL + 11) + rm2.locals ≤ rm.locals) (hf : k + rm2.cells ≤ rm.cells ∧ n + rm2.slots ≤ rm.slots) (hW : (st.map fun v => v.category).sum ≤ 8) (d : decode cc pc = .ok (.invokestatic index, 3)) (hM : ∀ a, F = some a → mi_ y bytes maxL ret2 rm2 G N ad ce As μ a μ) (h : bd_ F f = some r) (kk : ∀ a, f a = some r → wx_ G X N ad ce μ (k + rm2.cells) (n + rm2.slots) p1 lv (.int (iI a) :: st)) (hst : stk = As.reverse ++ st) : wx_ G X N ad ce μ k n pc lv stk := by
  obtain ⟨p, l, e, R, s, m, args, below, meth, c, Q, A, nL⟩ := X
  intro H locs ls hP hD hS hl
  subst hp
  have hts := C.2.2.1
  have hK := C.2.2.2.2.1
  have hA := C.2.2.2.2.2.1
  have hAb := C.2.2.2.2.2.2.2.2.1
  have hR' : R = rm := C.2.2.2.2.2.2.2.2.2.1
  have hg := C.2.2.2.2.2.2.2.2.2.2.2.1
  subst hR'
  have hsz : G.2.2 ≤ H.size := by
    have h1 := hAb s.heap.size (hA _ (Nat.le_refl _))
    exact Nat.le_trans h1 hS.1
  have hDb : va_D (fun q => G.2.2 ≤ q) (wl_ N ad ce μ) := hD.weaken (fun _ q _ h => hAb q.1 h)
  have hgH : gk_ G s H := gk_kept hg (fun a h1 h2 => hS.2.1 a h1 (fun q => h2 (hAb a q)))
  have hF : ∀ q, va_A (wl_ N ad ce μ) H.size q → A q := fun q h => by
    rcases h with ⟨j, e9, h⟩ | h
    · exact hD.2 j _ h
    · exact hA q (Nat.le_trans hS.1 h)
  have hpre : ∀ U : State, U.heap = H → s.WarmedH U.vm → pr_ G N ad ce μ H.size U := fun U hU hW9 => ⟨by rw [hU], by rw [hU]; exact hP, va_K.moved hW9.alike hK, hDb, hsz, by rw [hU]; exact gk_moved hW9.alike hgH⟩
  subst hst
  obtain ⟨a9, e9, h⟩ := bd_e h
  have hM9 := hM a9 e9 l H.size
  have hpreV : ∀ U : State, U.heap = H → s.WarmedH U.vm → va_Pc As (pr_ G N ad ce μ H.size) (As).toArray U := fun U hU hW9 => ⟨rfl, hpre U hU hW9⟩
  refine va_calli (va_runS (rest := st) ⟨C.1, C.2.1, C.2.2.2.2.2.2.1, C.2.2.2.1, hts⟩ hM9 ⟨callB_of nA hts (gT_in hca.2.1) rfl rfl rfl (hts _ hca.1) (hts _ m1) hca.2.2 hR, hts _ hcv⟩ ⟨(fun a U g mk q => by obtain ⟨q0, q1, qP, qK, qD, q2, q3⟩ := q; exact ⟨q0, q1, qP, va_K.moved (u := U) (U := U.calling g mk a) (Vm.Alike.refl U.vm) qK, qD, q2, gk_moved (u := U) (U := U.calling g mk a) (Vm.Alike.refl U.vm) q3⟩), hpreV⟩ rfl hn hl.1 rfl (lv_room hW) d hf) hS (fun q _ h => hF q h) hF (fun r9 u t H1 locs1 ht hvm hw hB hz1 hk1 hS1 => ?_)
  obtain ⟨hP1, hK1, hD1⟩ := hB
  rw [ht] at hP1
  rw [hw]
  exact kk a9 h H1 locs1 ls hP1 (hD1.weaken (fun _ q _ h => hF q.1 h)) hS1 hl
theorem xx_cSv (C : cx_ G X cc own rm ret nl) (p1 : Nat) (hp : pc + 3 = p1) {F : Option mu_T} {f : mu_T → Option α} {y : MethodName} {bytes : ByteArray} {maxL nA index : Nat} {rm2 : Room} {As : List Value} (hca : ca_ y bytes maxL none nA) (hcv : Cond.static y ∈ gT_) (m1 : Cond.methodLink own index y ∈ gT_) (hn : As.length = nA) (hR : rm2.frames + 1 ≤ rm.frames ∧ 8 + (maxL + 11) + rm2.locals ≤ rm.locals) (hf : k + rm2.cells ≤ rm.cells ∧ n + rm2.slots ≤ rm.slots) (hW : (st.map fun v => v.category).sum ≤ 8) (d : decode cc pc = .ok (.invokestatic index, 3)) (hM : ∀ μ1, F = some μ1 → mv_ y bytes maxL rm2 G N ad ce As μ μ1) (h : bd_ F f = some r) (kk : ∀ μ1, f μ1 = some r → wx_ G X N ad ce μ1 (k + rm2.cells) (n + rm2.slots) p1 lv st) (hst : stk = As.reverse ++ st) : wx_ G X N ad ce μ k n pc lv stk := by
  obtain ⟨p, l, e, R, s, m, args, below, meth, c, Q, A, nL⟩ := X
  intro H locs ls hP hD hS hl
  subst hp
  have hts := C.2.2.1
  have hK := C.2.2.2.2.1
  have hA := C.2.2.2.2.2.1
  have hAb := C.2.2.2.2.2.2.2.2.1
  have hR' : R = rm := C.2.2.2.2.2.2.2.2.2.1
  have hg := C.2.2.2.2.2.2.2.2.2.2.2.1
  subst hR'
  have hsz : G.2.2 ≤ H.size := by
    have h1 := hAb s.heap.size (hA _ (Nat.le_refl _))
    exact Nat.le_trans h1 hS.1
  have hDb : va_D (fun q => G.2.2 ≤ q) (wl_ N ad ce μ) := hD.weaken (fun _ q _ h => hAb q.1 h)
  have hgH : gk_ G s H := gk_kept hg (fun a h1 h2 => hS.2.1 a h1 (fun q => h2 (hAb a q)))
  have hF : ∀ q, va_A (wl_ N ad ce μ) H.size q → A q := fun q h => by
    rcases h with ⟨j, e9, h⟩ | h
    · exact hD.2 j _ h
    · exact hA q (Nat.le_trans hS.1 h)
  have hpre : ∀ U : State, U.heap = H → s.WarmedH U.vm → pr_ G N ad ce μ H.size U := fun U hU hW9 => ⟨by rw [hU], by rw [hU]; exact hP, va_K.moved hW9.alike hK, hDb, hsz, by rw [hU]; exact gk_moved hW9.alike hgH⟩
  subst hst
  obtain ⟨a9, e9, h⟩ := bd_e h
  have hM9 := hM a9 e9 l H.size
  have hpreV : ∀ U : State, U.heap = H → s.WarmedH U.vm → va_Pc As (pr_ G N ad ce μ H.size) (As).toArray U := fun U hU hW9 => ⟨rfl, hpre U hU hW9⟩
  refine va_callv (va_runS (rest := st) ⟨C.1, C.2.1, C.2.2.2.2.2.2.1, C.2.2.2.1, hts⟩ hM9 ⟨callB_of nA hts (gT_in hca.2.1) rfl rfl rfl (hts _ hca.1) (hts _ m1) hca.2.2 hR, hts _ hcv⟩ ⟨(fun a U g mk q => by obtain ⟨q0, q1, qP, qK, qD, q2, q3⟩ := q; exact ⟨q0, q1, qP, va_K.moved (u := U) (U := U.calling g mk a) (Vm.Alike.refl U.vm) qK, qD, q2, gk_moved (u := U) (U := U.calling g mk a) (Vm.Alike.refl U.vm) q3⟩), hpreV⟩ rfl hn hl.1 rfl (lv_room hW) d hf) hS (fun q _ h => hF q h) hF (fun u t H1 locs1 ht hvm hw hB hz1 hk1 hS1 => ?_)
  obtain ⟨hP1, hK1, hD1⟩ := hB
  rw [ht] at hP1
  exact kk a9 h H1 locs1 ls hP1 (hD1.weaken (fun _ q _ h => hF q.1 h)) hS1 hl
theorem xx_zretl (C : cx_ G X cc own rm ret nl) {e0 a : Int} {ty : FieldType} (E : ei_ G X N ad ce a μ rm) (hr : ret = some ty) (hz : narrow ty (.int (iI e0)) = .int (iI e0)) (hk : k ≤ rm.cells ∧ n ≤ rm.slots) (d : decode cc pc = .ok (.ireturn, 1)) (h : some e0 = some a) : wx_ G X N ad ce μ k n pc lv [.int (iI e0)] := xx_zret C E hr hz hk d (by rw [Option.some.inj h])
theorem jn_r {φ : Type} {f : φ} {kf : φ → Option α} {Z : Prop} (P : φ → Prop) (h : jn_ f kf = some r) (K : P f) (B : ∀ J, P J → kf J = some r → Z) : Z := B f K h
/-- the targets of a switch, one behind another -/
def al_ (G : gp_) (X : ct_) (N : Nat) (ad : Nat → Nat) (ce : Nat → (Int → Int) → va_E) (μ : mu_T) (k n : Nat) (lv : List (Nat × Value)) (st : List Value) (r : α) : List (Option α) → List Nat → Prop
  | b :: bs, t :: ts => (b = some r → wx_ G X N ad ce μ k n t lv st) ∧ al_ G X N ad ce μ k n lv st r bs ts
  | _, _ => True
theorem al_at (i : Nat) : ∀ {bs : List (Option α)} {ts : List Nat} {b : Option α} {t : Nat}, al_ G X N ad ce μ k n lv st r bs ts → bs[i]? = some b → ts[i]? = some t → b = some r → wx_ G X N ad ce μ k n t lv st := by
  induction i with
  | zero =>
    intro bs ts b t h hb ht hr
    cases bs with
    | nil => cases hb
    | cons b1 bs => cases ts with
      | nil => cases ht
      | cons t1 ts => cases hb; cases ht; exact h.1 hr
  | succ i ih =>
    intro bs ts b t h hb ht hr
    cases bs with
    | nil => cases hb
    | cons b1 bs => cases ts with
      | nil => cases ht
      | cons t1 ts => exact ih h.2 hb ht hr
theorem xx_tsw (C : cx_ G X cc own rm ret nl) {a dflt lo hi : Int} {offs : Array Int} {len : Nat} (vs : List Int) (bs : List (Option α)) (ts : List Nat) (tD : Nat) {df : Option α} (d : decode cc pc = .ok (.tableswitch dflt lo hi offs, len)) (hc : tk_ pc dflt lo hi offs.toList vs ts tD = true) (hl2 : vs.length = bs.length) (h : ts_ a vs bs df = some r) (kd : df = some r → wx_ G X N ad ce μ k n tD lv st) (kk : al_ G X N ad ce μ k n lv st r bs ts) : wx_ G X N ad ce μ k n pc lv (.int (iI a) :: st) := by
  obtain ⟨p, l, e, R, s, m, args, below, meth, c, Q, A, nL⟩ := X
  intro H locs ls hP hD hS hl
  obtain ⟨hr, h⟩ := ck_e h
  rcases tw_e2 hl2 h with ⟨hno, h⟩ | ⟨i, b, h1, h2, h3⟩
  · by_cases hlo : a < lo ∨ hi < a
    · exact lv_tableOut C.1 C.2.1 d (by rw [iI_toInt hr]; exact hlo) (tk_d hc) (kd h H locs ls hP hD hS hl)
    · obtain ⟨off, ho, he⟩ := tk_o hc (a := a) (by omega) hno
      exact lv_tableIn C.1 C.2.1 d (by rw [iI_toInt hr]; omega) (by rw [iI_toInt hr]; omega) (by rw [iI_toInt hr, ← Array.getElem?_toList]; exact ho) he (kd h H locs ls hP hD hS hl)
  · obtain ⟨t, off, ht, ho, he, h4, h5⟩ := tk_i hc h1
    exact lv_tableIn C.1 C.2.1 d (by rw [iI_toInt hr]; omega) (by rw [iI_toInt hr]; omega) (by rw [iI_toInt hr, ← Array.getElem?_toList]; exact ho) he (al_at i kk h2 ht h3 H locs ls hP hD hS hl)
end XR
end
section
/-! the reference: its cells, its pure functions, their contracts (written by wip/gen/mgen.py) -/
def ceM (G : gp_) (ad : Nat → Nat) (k : Nat) (row : Int → Int) : va_E := match k with
  | 0 => .inr (11, [.ref (ad 1), .ref (ad 2), .ref (ad 3), .ref (ad 4), .int (iI (row 4)), .int (iI (row 5)), .ref (ad 5), .ref (ad 6), .ref (ad 7), .ref (ad 8), .int (iI (row 10)), .int (iI (row 11)), .int (iI (row 12)), .int (iI (row 13)), .int (iI (row 14)), .int (iI (row 15)), .int (iI (row 16)), .int (iI (row 17)), .int (iI (row 18)), .int (iI (row 19))])
  | 1 => .inl (G.1.1 100, 293, .inl (fun j => iI (row (j : Nat))))
  | 2 => .inl (G.1.1 100, 293, .inl (fun j => iI (row (j : Nat))))
  | 3 => .inl (G.1.1 100, 293, .inl (fun j => iI (row (j : Nat))))
  | 4 => .inl (G.1.1 100, 2344, .inl (fun j => iI (row (j : Nat))))
  | 5 => .inl (G.1.1 100, 60, .inl (fun j => iI (row (j : Nat))))
  | 6 => .inl (G.1.1 100, 80, .inl (fun j => iI (row (j : Nat))))
  | 7 => .inl (G.1.1 100, 60, .inl (fun j => iI (row (j : Nat))))
  | _ => .inl (G.1.1 100, 24, .inl (fun j => iI (row (j : Nat))))
theorem ceM_0 (G : gp_) (ad : Nat → Nat) (row : Int → Int) : ceM G ad 0 row = .inr (11, [.ref (ad 1), .ref (ad 2), .ref (ad 3), .ref (ad 4), .int (iI (row 4)), .int (iI (row 5)), .ref (ad 5), .ref (ad 6), .ref (ad 7), .ref (ad 8), .int (iI (row 10)), .int (iI (row 11)), .int (iI (row 12)), .int (iI (row 13)), .int (iI (row 14)), .int (iI (row 15)), .int (iI (row 16)), .int (iI (row 17)), .int (iI (row 18)), .int (iI (row 19))]) := rfl
theorem puM_4 (G : gp_) (ad : Nat → Nat) (row : Int → Int) (v : Int) : ceM G ad 0 (ur_ row 4 v) = .inr (11, ([.ref (ad 1), .ref (ad 2), .ref (ad 3), .ref (ad 4), .int (iI (row 4)), .int (iI (row 5)), .ref (ad 5), .ref (ad 6), .ref (ad 7), .ref (ad 8), .int (iI (row 10)), .int (iI (row 11)), .int (iI (row 12)), .int (iI (row 13)), .int (iI (row 14)), .int (iI (row 15)), .int (iI (row 16)), .int (iI (row 17)), .int (iI (row 18)), .int (iI (row 19))] : List Value).set 4 (.int (iI v))) := rfl
theorem puM_5 (G : gp_) (ad : Nat → Nat) (row : Int → Int) (v : Int) : ceM G ad 0 (ur_ row 5 v) = .inr (11, ([.ref (ad 1), .ref (ad 2), .ref (ad 3), .ref (ad 4), .int (iI (row 4)), .int (iI (row 5)), .ref (ad 5), .ref (ad 6), .ref (ad 7), .ref (ad 8), .int (iI (row 10)), .int (iI (row 11)), .int (iI (row 12)), .int (iI (row 13)), .int (iI (row 14)), .int (iI (row 15)), .int (iI (row 16)), .int (iI (row 17)), .int (iI (row 18)), .int (iI (row 19))] : List Value).set 5 (.int (iI v))) := rfl
theorem puM_10 (G : gp_) (ad : Nat → Nat) (row : Int → Int) (v : Int) : ceM G ad 0 (ur_ row 10 v) = .inr (11, ([.ref (ad 1), .ref (ad 2), .ref (ad 3), .ref (ad 4), .int (iI (row 4)), .int (iI (row 5)), .ref (ad 5), .ref (ad 6), .ref (ad 7), .ref (ad 8), .int (iI (row 10)), .int (iI (row 11)), .int (iI (row 12)), .int (iI (row 13)), .int (iI (row 14)), .int (iI (row 15)), .int (iI (row 16)), .int (iI (row 17)), .int (iI (row 18)), .int (iI (row 19))] : List Value).set 10 (.int (iI v))) := rfl
theorem puM_11 (G : gp_) (ad : Nat → Nat) (row : Int → Int) (v : Int) : ceM G ad 0 (ur_ row 11 v) = .inr (11, ([.ref (ad 1), .ref (ad 2), .ref (ad 3), .ref (ad 4), .int (iI (row 4)), .int (iI (row 5)), .ref (ad 5), .ref (ad 6), .ref (ad 7), .ref (ad 8), .int (iI (row 10)), .int (iI (row 11)), .int (iI (row 12)), .int (iI (row 13)), .int (iI (row 14)), .int (iI (row 15)), .int (iI (row 16)), .int (iI (row 17)), .int (iI (row 18)), .int (iI (row 19))] : List Value).set 11 (.int (iI v))) := rfl
theorem puM_12 (G : gp_) (ad : Nat → Nat) (row : Int → Int) (v : Int) : ceM G ad 0 (ur_ row 12 v) = .inr (11, ([.ref (ad 1), .ref (ad 2), .ref (ad 3), .ref (ad 4), .int (iI (row 4)), .int (iI (row 5)), .ref (ad 5), .ref (ad 6), .ref (ad 7), .ref (ad 8), .int (iI (row 10)), .int (iI (row 11)), .int (iI (row 12)), .int (iI (row 13)), .int (iI (row 14)), .int (iI (row 15)), .int (iI (row 16)), .int (iI (row 17)), .int (iI (row 18)), .int (iI (row 19))] : List Value).set 12 (.int (iI v))) := rfl
theorem puM_13 (G : gp_) (ad : Nat → Nat) (row : Int → Int) (v : Int) : ceM G ad 0 (ur_ row 13 v) = .inr (11, ([.ref (ad 1), .ref (ad 2), .ref (ad 3), .ref (ad 4), .int (iI (row 4)), .int (iI (row 5)), .ref (ad 5), .ref (ad 6), .ref (ad 7), .ref (ad 8), .int (iI (row 10)), .int (iI (row 11)), .int (iI (row 12)), .int (iI (row 13)), .int (iI (row 14)), .int (iI (row 15)), .int (iI (row 16)), .int (iI (row 17)), .int (iI (row 18)), .int (iI (row 19))] : List Value).set 13 (.int (iI v))) := rfl
theorem puM_14 (G : gp_) (ad : Nat → Nat) (row : Int → Int) (v : Int) : ceM G ad 0 (ur_ row 14 v) = .inr (11, ([.ref (ad 1), .ref (ad 2), .ref (ad 3), .ref (ad 4), .int (iI (row 4)), .int (iI (row 5)), .ref (ad 5), .ref (ad 6), .ref (ad 7), .ref (ad 8), .int (iI (row 10)), .int (iI (row 11)), .int (iI (row 12)), .int (iI (row 13)), .int (iI (row 14)), .int (iI (row 15)), .int (iI (row 16)), .int (iI (row 17)), .int (iI (row 18)), .int (iI (row 19))] : List Value).set 14 (.int (iI v))) := rfl
theorem puM_15 (G : gp_) (ad : Nat → Nat) (row : Int → Int) (v : Int) : ceM G ad 0 (ur_ row 15 v) = .inr (11, ([.ref (ad 1), .ref (ad 2), .ref (ad 3), .ref (ad 4), .int (iI (row 4)), .int (iI (row 5)), .ref (ad 5), .ref (ad 6), .ref (ad 7), .ref (ad 8), .int (iI (row 10)), .int (iI (row 11)), .int (iI (row 12)), .int (iI (row 13)), .int (iI (row 14)), .int (iI (row 15)), .int (iI (row 16)), .int (iI (row 17)), .int (iI (row 18)), .int (iI (row 19))] : List Value).set 15 (.int (iI v))) := rfl
theorem puM_16 (G : gp_) (ad : Nat → Nat) (row : Int → Int) (v : Int) : ceM G ad 0 (ur_ row 16 v) = .inr (11, ([.ref (ad 1), .ref (ad 2), .ref (ad 3), .ref (ad 4), .int (iI (row 4)), .int (iI (row 5)), .ref (ad 5), .ref (ad 6), .ref (ad 7), .ref (ad 8), .int (iI (row 10)), .int (iI (row 11)), .int (iI (row 12)), .int (iI (row 13)), .int (iI (row 14)), .int (iI (row 15)), .int (iI (row 16)), .int (iI (row 17)), .int (iI (row 18)), .int (iI (row 19))] : List Value).set 16 (.int (iI v))) := rfl
theorem puM_17 (G : gp_) (ad : Nat → Nat) (row : Int → Int) (v : Int) : ceM G ad 0 (ur_ row 17 v) = .inr (11, ([.ref (ad 1), .ref (ad 2), .ref (ad 3), .ref (ad 4), .int (iI (row 4)), .int (iI (row 5)), .ref (ad 5), .ref (ad 6), .ref (ad 7), .ref (ad 8), .int (iI (row 10)), .int (iI (row 11)), .int (iI (row 12)), .int (iI (row 13)), .int (iI (row 14)), .int (iI (row 15)), .int (iI (row 16)), .int (iI (row 17)), .int (iI (row 18)), .int (iI (row 19))] : List Value).set 17 (.int (iI v))) := rfl
theorem puM_18 (G : gp_) (ad : Nat → Nat) (row : Int → Int) (v : Int) : ceM G ad 0 (ur_ row 18 v) = .inr (11, ([.ref (ad 1), .ref (ad 2), .ref (ad 3), .ref (ad 4), .int (iI (row 4)), .int (iI (row 5)), .ref (ad 5), .ref (ad 6), .ref (ad 7), .ref (ad 8), .int (iI (row 10)), .int (iI (row 11)), .int (iI (row 12)), .int (iI (row 13)), .int (iI (row 14)), .int (iI (row 15)), .int (iI (row 16)), .int (iI (row 17)), .int (iI (row 18)), .int (iI (row 19))] : List Value).set 18 (.int (iI v))) := rfl
theorem puM_19 (G : gp_) (ad : Nat → Nat) (row : Int → Int) (v : Int) : ceM G ad 0 (ur_ row 19 v) = .inr (11, ([.ref (ad 1), .ref (ad 2), .ref (ad 3), .ref (ad 4), .int (iI (row 4)), .int (iI (row 5)), .ref (ad 5), .ref (ad 6), .ref (ad 7), .ref (ad 8), .int (iI (row 10)), .int (iI (row 11)), .int (iI (row 12)), .int (iI (row 13)), .int (iI (row 14)), .int (iI (row 15)), .int (iI (row 16)), .int (iI (row 17)), .int (iI (row 18)), .int (iI (row 19))] : List Value).set 19 (.int (iI v))) := rfl
theorem in_X12 : ∀ w ∈ u_ws "UrnHeapModel" TX12 20, w ∈ gT_ := gl_ (by decide +kernel)
theorem w_1172 : Cond.fieldLink "UrnHeapModel" 13 "UrnHeapModel" "frame" "[I" ∈ gT_ := gm_ 1172 (by decide +kernel)
theorem w_1171 : Cond.fieldLink "UrnHeapModel" 7 "UrnHeapModel" "s" "[I" ∈ gT_ := gm_ 1171 (by decide +kernel)
theorem w_1175 : Cond.fieldLink "UrnHeapModel" 38 "UrnHeapModel" "kept" "I" ∈ gT_ := gm_ 1175 (by decide +kernel)
theorem w_1174 : Cond.fieldLink "UrnHeapModel" 19 "UrnHeapModel" "history" "[I" ∈ gT_ := gm_ 1174 (by decide +kernel)
theorem w_1185 : Cond.fieldLink "UrnHeapModel" 42 "UrnHeapModel" "about" "I" ∈ gT_ := gm_ 1185 (by decide +kernel)
theorem w_1186 : Cond.fieldLink "UrnHeapModel" 45 "UrnHeapModel" "answer" "I" ∈ gT_ := gm_ 1186 (by decide +kernel)
theorem w_1183 : Cond.fieldLink "UrnHeapModel" 52 "UrnHeapModel" "why" "I" ∈ gT_ := gm_ 1183 (by decide +kernel)
theorem w_1184 : Cond.fieldLink "UrnHeapModel" 55 "UrnHeapModel" "detail" "I" ∈ gT_ := gm_ 1184 (by decide +kernel)
theorem w_1256 : Cond.methodLink "UrnHeapModel" 48 yX12_changed ∈ gT_ := gm_ 1256 (by decide +kernel)
theorem w_1272 : Cond.methodLink "UrnHeapModel" 58 yX12_in ∈ gT_ := gm_ 1272 (by decide +kernel)
theorem w_1168 : Cond.methodLink "UrnHeapModel" 62 yX12_at ∈ gT_ := gm_ 1168 (by decide +kernel)
theorem w_1283 : Cond.methodLink "UrnHeapModel" 66 yX12_greys ∈ gT_ := gm_ 1283 (by decide +kernel)
theorem w_1279 : Cond.methodLink "UrnHeapModel" 69 yX12_greysIfWhite ∈ gT_ := gm_ 1279 (by decide +kernel)
theorem w_1164 : Cond.methodLink "UrnHeapModel" 34 yX12_empties ∈ gT_ := gm_ 1164 (by decide +kernel)
theorem w_1371 : Cond.methodLink "UrnHeapModel" 72 yX12_frees ∈ gT_ := gm_ 1371 (by decide +kernel)
theorem w_1379 : Cond.methodLink "UrnHeapModel" 81 yX12_becomeDue ∈ gT_ := gm_ 1379 (by decide +kernel)
theorem w_1383 : Cond.methodLink "UrnHeapModel" 85 yX12_cutsWeak ∈ gT_ := gm_ 1383 (by decide +kernel)
theorem w_1375 : Cond.methodLink "UrnHeapModel" 78 yX12_blackens ∈ gT_ := gm_ 1375 (by decide +kernel)
theorem w_1367 : Cond.methodLink "UrnHeapModel" 75 yX12_sweeps ∈ gT_ := gm_ 1367 (by decide +kernel)
theorem w_1363 : Cond.methodLink "UrnHeapModel" 88 yX12_part ∈ gT_ := gm_ 1363 (by decide +kernel)
theorem w_1248 : Cond.methodLink "UrnHeapModel" 94 yX12_done ∈ gT_ := gm_ 1248 (by decide +kernel)
theorem w_1244 : Cond.methodLink "UrnHeapModel" 91 yX12_refused ∈ gT_ := gm_ 1244 (by decide +kernel)
theorem w_1268 : Cond.methodLink "UrnHeapModel" 97 yX12_isUrn ∈ gT_ := gm_ 1268 (by decide +kernel)
theorem w_1275 : Cond.methodLink "UrnHeapModel" 101 yX12_isDoomed ∈ gT_ := gm_ 1275 (by decide +kernel)
theorem w_1359 : Cond.methodLink "UrnHeapModel" 104 yX12_partsOn ∈ gT_ := gm_ 1359 (by decide +kernel)
theorem w_1347 : Cond.methodLink "UrnHeapModel" 107 yX12_beginsRound ∈ gT_ := gm_ 1347 (by decide +kernel)
theorem w_1236 : Cond.methodLink "UrnHeapModel" 111 yX12_remembers ∈ gT_ := gm_ 1236 (by decide +kernel)
theorem w_1240 : Cond.methodLink "UrnHeapModel" 114 yX12_makes ∈ gT_ := gm_ 1240 (by decide +kernel)
theorem w_1252 : Cond.methodLink "UrnHeapModel" 118 yX12_ends ∈ gT_ := gm_ 1252 (by decide +kernel)
theorem w_1264 : Cond.methodLink "UrnHeapModel" 121 yX12_ties ∈ gT_ := gm_ 1264 (by decide +kernel)
theorem w_1291 : Cond.methodLink "UrnHeapModel" 125 yX12_unties ∈ gT_ := gm_ 1291 (by decide +kernel)
theorem w_1299 : Cond.methodLink "UrnHeapModel" 128 yX12_weakens ∈ gT_ := gm_ 1299 (by decide +kernel)
theorem w_1311 : Cond.methodLink "UrnHeapModel" 131 yX12_names ∈ gT_ := gm_ 1311 (by decide +kernel)
theorem w_1319 : Cond.methodLink "UrnHeapModel" 134 yX12_drops ∈ gT_ := gm_ 1319 (by decide +kernel)
theorem w_1327 : Cond.methodLink "UrnHeapModel" 137 yX12_holds ∈ gT_ := gm_ 1327 (by decide +kernel)
theorem w_1331 : Cond.methodLink "UrnHeapModel" 140 yX12_held ∈ gT_ := gm_ 1331 (by decide +kernel)
theorem w_1355 : Cond.methodLink "UrnHeapModel" 143 yX12_stepsOn ∈ gT_ := gm_ 1355 (by decide +kernel)
theorem w_1391 : Cond.methodLink "UrnHeapModel" 146 yX12_wholeRound ∈ gT_ := gm_ 1391 (by decide +kernel)
theorem w_1399 : Cond.methodLink "UrnHeapModel" 149 yX12_doesRite ∈ gT_ := gm_ 1399 (by decide +kernel)
theorem w_1180 : Cond.fieldLink "UrnHeapModel" 31 "UrnHeapModel" "far" "[I" ∈ gT_ := gm_ 1180 (by decide +kernel)
theorem w_1423 : Cond.methodLink "UrnHeapModel" 152 yX12_nears ∈ gT_ := gm_ 1423 (by decide +kernel)
theorem w_1419 : Cond.methodLink "UrnHeapModel" 156 yX12_measures ∈ gT_ := gm_ 1419 (by decide +kernel)
theorem w_1427 : Cond.methodLink "UrnHeapModel" 160 yX12_reached ∈ gT_ := gm_ 1427 (by decide +kernel)
theorem w_1435 : Cond.methodLink "UrnHeapModel" 163 yX12_live ∈ gT_ := gm_ 1435 (by decide +kernel)
theorem w_1452 : Cond.methodLink "UrnHeapModel" 166 yX12_urns ∈ gT_ := gm_ 1452 (by decide +kernel)
theorem w_1181 : Cond.fieldLink "UrnHeapModel" 173 "UrnHeapModel" "length" "I" ∈ gT_ := gm_ 1181 (by decide +kernel)
theorem w_1177 : Cond.fieldLink "UrnHeapModel" 22 "UrnHeapModel" "text" "[I" ∈ gT_ := gm_ 1177 (by decide +kernel)
theorem w_1187 : Cond.fieldLink "UrnHeapModel" 176 "UrnHeapModel" "spot" "I" ∈ gT_ := gm_ 1187 (by decide +kernel)
theorem w_1188 : Cond.fieldLink "UrnHeapModel" 179 "UrnHeapModel" "end" "I" ∈ gT_ := gm_ 1188 (by decide +kernel)
theorem w_1178 : Cond.fieldLink "UrnHeapModel" 25 "UrnHeapModel" "told" "[I" ∈ gT_ := gm_ 1178 (by decide +kernel)
theorem w_1189 : Cond.fieldLink "UrnHeapModel" 197 "UrnHeapModel" "orders" "I" ∈ gT_ := gm_ 1189 (by decide +kernel)
theorem w_1190 : Cond.fieldLink "UrnHeapModel" 186 "UrnHeapModel" "isWrong" "Z" ∈ gT_ := gm_ 1190 (by decide +kernel)
theorem w_1484 : Cond.methodLink "UrnHeapModel" 200 yX12_tells ∈ gT_ := gm_ 1484 (by decide +kernel)
theorem w_1476 : Cond.methodLink "UrnHeapModel" 190 yX12_here ∈ gT_ := gm_ 1476 (by decide +kernel)
theorem w_1179 : Cond.fieldLink "UrnHeapModel" 28 "UrnHeapModel" "line" "[I" ∈ gT_ := gm_ 1179 (by decide +kernel)
theorem w_1182 : Cond.fieldLink "UrnHeapModel" 247 "UrnHeapModel" "lineLength" "I" ∈ gT_ := gm_ 1182 (by decide +kernel)
theorem w_1529 : Cond.methodLink "UrnHeapModel" 250 yX12_writes ∈ gT_ := gm_ 1529 (by decide +kernel)
theorem w_1525 : Cond.methodLink "UrnHeapModel" 253 yX12_writesNumber ∈ gT_ := gm_ 1525 (by decide +kernel)
theorem w_1569 : Cond.methodLink "UrnHeapModel" 265 yX12_isThere ∈ gT_ := gm_ 1569 (by decide +kernel)
theorem w_1553 : Cond.methodLink "UrnHeapModel" 259 yX12_manyUrns ∈ gT_ := gm_ 1553 (by decide +kernel)
theorem w_1176 : Cond.fieldLink "UrnHeapModel" 271 "UrnHeapModel" "hasSaved" "Z" ∈ gT_ := gm_ 1176 (by decide +kernel)
theorem w_1173 : Cond.fieldLink "UrnHeapModel" 16 "UrnHeapModel" "saved" "[I" ∈ gT_ := gm_ 1173 (by decide +kernel)
theorem w_91 : Cond.initialized "UrnHeapModel" ∈ gT_ := gm_ 91 (by decide +kernel)
theorem w_1259 : Cond.code yX12_changed cX12_changed 3 (some .int) ∈ gT_ := gm_ 1259 (by decide +kernel)
theorem w_1258 : Cond.instanceMethod yX12_changed ∈ gT_ := gm_ 1258 (by decide +kernel)
theorem w_31 : Cond.selects "UrnHeapModel" yX12_changed yX12_changed ∈ gT_ := gm_ 31 (by decide +kernel)
theorem w_1274 : Cond.code yX12_in cX12_in 3 (some .boolean) ∈ gT_ := gm_ 1274 (by decide +kernel)
theorem w_1273 : Cond.static yX12_in ∈ gT_ := gm_ 1273 (by decide +kernel)
theorem w_1170 : Cond.code yX12_at cX12_at 2 (some .int) ∈ gT_ := gm_ 1170 (by decide +kernel)
theorem w_1169 : Cond.static yX12_at ∈ gT_ := gm_ 1169 (by decide +kernel)
theorem w_1286 : Cond.code yX12_greys cX12_greys 2 none ∈ gT_ := gm_ 1286 (by decide +kernel)
theorem w_1285 : Cond.instanceMethod yX12_greys ∈ gT_ := gm_ 1285 (by decide +kernel)
theorem w_36 : Cond.selects "UrnHeapModel" yX12_greys yX12_greys ∈ gT_ := gm_ 36 (by decide +kernel)
theorem w_1282 : Cond.code yX12_greysIfWhite cX12_greysIfWhite 2 none ∈ gT_ := gm_ 1282 (by decide +kernel)
theorem w_1281 : Cond.instanceMethod yX12_greysIfWhite ∈ gT_ := gm_ 1281 (by decide +kernel)
theorem w_35 : Cond.selects "UrnHeapModel" yX12_greysIfWhite yX12_greysIfWhite ∈ gT_ := gm_ 35 (by decide +kernel)
theorem w_1167 : Cond.code yX12_empties cX12_empties 3 none ∈ gT_ := gm_ 1167 (by decide +kernel)
theorem w_1166 : Cond.instanceMethod yX12_empties ∈ gT_ := gm_ 1166 (by decide +kernel)
theorem w_25 : Cond.selects "UrnHeapModel" yX12_empties yX12_empties ∈ gT_ := gm_ 25 (by decide +kernel)
theorem w_1374 : Cond.code yX12_frees cX12_frees 4 none ∈ gT_ := gm_ 1374 (by decide +kernel)
theorem w_1373 : Cond.instanceMethod yX12_frees ∈ gT_ := gm_ 1373 (by decide +kernel)
theorem w_48 : Cond.selects "UrnHeapModel" yX12_frees yX12_frees ∈ gT_ := gm_ 48 (by decide +kernel)
theorem w_1382 : Cond.code yX12_becomeDue cX12_becomeDue 3 (some .boolean) ∈ gT_ := gm_ 1382 (by decide +kernel)
theorem w_1381 : Cond.instanceMethod yX12_becomeDue ∈ gT_ := gm_ 1381 (by decide +kernel)
theorem w_50 : Cond.selects "UrnHeapModel" yX12_becomeDue yX12_becomeDue ∈ gT_ := gm_ 50 (by decide +kernel)
theorem w_1386 : Cond.code yX12_cutsWeak cX12_cutsWeak 3 none ∈ gT_ := gm_ 1386 (by decide +kernel)
theorem w_1385 : Cond.instanceMethod yX12_cutsWeak ∈ gT_ := gm_ 1385 (by decide +kernel)
theorem w_51 : Cond.selects "UrnHeapModel" yX12_cutsWeak yX12_cutsWeak ∈ gT_ := gm_ 51 (by decide +kernel)
theorem w_1378 : Cond.code yX12_blackens cX12_blackens 3 none ∈ gT_ := gm_ 1378 (by decide +kernel)
theorem w_1377 : Cond.instanceMethod yX12_blackens ∈ gT_ := gm_ 1377 (by decide +kernel)
theorem w_49 : Cond.selects "UrnHeapModel" yX12_blackens yX12_blackens ∈ gT_ := gm_ 49 (by decide +kernel)
theorem w_1370 : Cond.code yX12_sweeps cX12_sweeps 2 none ∈ gT_ := gm_ 1370 (by decide +kernel)
theorem w_1369 : Cond.instanceMethod yX12_sweeps ∈ gT_ := gm_ 1369 (by decide +kernel)
theorem w_47 : Cond.selects "UrnHeapModel" yX12_sweeps yX12_sweeps ∈ gT_ := gm_ 47 (by decide +kernel)
theorem w_1366 : Cond.code yX12_part cX12_part 1 none ∈ gT_ := gm_ 1366 (by decide +kernel)
theorem w_1365 : Cond.instanceMethod yX12_part ∈ gT_ := gm_ 1365 (by decide +kernel)
theorem w_46 : Cond.selects "UrnHeapModel" yX12_part yX12_part ∈ gT_ := gm_ 46 (by decide +kernel)
theorem w_1251 : Cond.code yX12_done cX12_done 2 (some .int) ∈ gT_ := gm_ 1251 (by decide +kernel)
theorem w_1250 : Cond.instanceMethod yX12_done ∈ gT_ := gm_ 1250 (by decide +kernel)
theorem w_29 : Cond.selects "UrnHeapModel" yX12_done yX12_done ∈ gT_ := gm_ 29 (by decide +kernel)
theorem w_1247 : Cond.code yX12_refused cX12_refused 3 (some .int) ∈ gT_ := gm_ 1247 (by decide +kernel)
theorem w_1246 : Cond.instanceMethod yX12_refused ∈ gT_ := gm_ 1246 (by decide +kernel)
theorem w_28 : Cond.selects "UrnHeapModel" yX12_refused yX12_refused ∈ gT_ := gm_ 28 (by decide +kernel)
theorem w_1271 : Cond.code yX12_isUrn cX12_isUrn 2 (some .boolean) ∈ gT_ := gm_ 1271 (by decide +kernel)
theorem w_1270 : Cond.instanceMethod yX12_isUrn ∈ gT_ := gm_ 1270 (by decide +kernel)
theorem w_33 : Cond.selects "UrnHeapModel" yX12_isUrn yX12_isUrn ∈ gT_ := gm_ 33 (by decide +kernel)
theorem w_1278 : Cond.code yX12_isDoomed cX12_isDoomed 2 (some .boolean) ∈ gT_ := gm_ 1278 (by decide +kernel)
theorem w_1277 : Cond.instanceMethod yX12_isDoomed ∈ gT_ := gm_ 1277 (by decide +kernel)
theorem w_34 : Cond.selects "UrnHeapModel" yX12_isDoomed yX12_isDoomed ∈ gT_ := gm_ 34 (by decide +kernel)
theorem w_1362 : Cond.code yX12_partsOn cX12_partsOn 3 (some .int) ∈ gT_ := gm_ 1362 (by decide +kernel)
theorem w_1361 : Cond.instanceMethod yX12_partsOn ∈ gT_ := gm_ 1361 (by decide +kernel)
theorem w_45 : Cond.selects "UrnHeapModel" yX12_partsOn yX12_partsOn ∈ gT_ := gm_ 45 (by decide +kernel)
theorem w_1350 : Cond.code yX12_beginsRound cX12_beginsRound 2 (some .int) ∈ gT_ := gm_ 1350 (by decide +kernel)
theorem w_1349 : Cond.instanceMethod yX12_beginsRound ∈ gT_ := gm_ 1349 (by decide +kernel)
theorem w_43 : Cond.selects "UrnHeapModel" yX12_beginsRound yX12_beginsRound ∈ gT_ := gm_ 43 (by decide +kernel)
theorem w_1239 : Cond.code yX12_remembers cX12_remembers 2 none ∈ gT_ := gm_ 1239 (by decide +kernel)
theorem w_1238 : Cond.instanceMethod yX12_remembers ∈ gT_ := gm_ 1238 (by decide +kernel)
theorem w_26 : Cond.selects "UrnHeapModel" yX12_remembers yX12_remembers ∈ gT_ := gm_ 26 (by decide +kernel)
theorem w_1243 : Cond.code yX12_makes cX12_makes 3 (some .int) ∈ gT_ := gm_ 1243 (by decide +kernel)
theorem w_1242 : Cond.instanceMethod yX12_makes ∈ gT_ := gm_ 1242 (by decide +kernel)
theorem w_27 : Cond.selects "UrnHeapModel" yX12_makes yX12_makes ∈ gT_ := gm_ 27 (by decide +kernel)
theorem w_1255 : Cond.code yX12_ends cX12_ends 2 (some .int) ∈ gT_ := gm_ 1255 (by decide +kernel)
theorem w_1254 : Cond.instanceMethod yX12_ends ∈ gT_ := gm_ 1254 (by decide +kernel)
theorem w_30 : Cond.selects "UrnHeapModel" yX12_ends yX12_ends ∈ gT_ := gm_ 30 (by decide +kernel)
theorem w_1267 : Cond.code yX12_ties cX12_ties 5 (some .int) ∈ gT_ := gm_ 1267 (by decide +kernel)
theorem w_1266 : Cond.instanceMethod yX12_ties ∈ gT_ := gm_ 1266 (by decide +kernel)
theorem w_32 : Cond.selects "UrnHeapModel" yX12_ties yX12_ties ∈ gT_ := gm_ 32 (by decide +kernel)
theorem w_1294 : Cond.code yX12_unties cX12_unties 4 (some .int) ∈ gT_ := gm_ 1294 (by decide +kernel)
theorem w_1293 : Cond.instanceMethod yX12_unties ∈ gT_ := gm_ 1293 (by decide +kernel)
theorem w_37 : Cond.selects "UrnHeapModel" yX12_unties yX12_unties ∈ gT_ := gm_ 37 (by decide +kernel)
theorem w_1302 : Cond.code yX12_weakens cX12_weakens 4 (some .int) ∈ gT_ := gm_ 1302 (by decide +kernel)
theorem w_1301 : Cond.instanceMethod yX12_weakens ∈ gT_ := gm_ 1301 (by decide +kernel)
theorem w_38 : Cond.selects "UrnHeapModel" yX12_weakens yX12_weakens ∈ gT_ := gm_ 38 (by decide +kernel)
theorem w_1314 : Cond.code yX12_names cX12_names 4 (some .int) ∈ gT_ := gm_ 1314 (by decide +kernel)
theorem w_1313 : Cond.instanceMethod yX12_names ∈ gT_ := gm_ 1313 (by decide +kernel)
theorem w_39 : Cond.selects "UrnHeapModel" yX12_names yX12_names ∈ gT_ := gm_ 39 (by decide +kernel)
theorem w_1322 : Cond.code yX12_drops cX12_drops 3 (some .int) ∈ gT_ := gm_ 1322 (by decide +kernel)
theorem w_1321 : Cond.instanceMethod yX12_drops ∈ gT_ := gm_ 1321 (by decide +kernel)
theorem w_40 : Cond.selects "UrnHeapModel" yX12_drops yX12_drops ∈ gT_ := gm_ 40 (by decide +kernel)
theorem w_1330 : Cond.code yX12_holds cX12_holds 4 (some .int) ∈ gT_ := gm_ 1330 (by decide +kernel)
theorem w_1329 : Cond.instanceMethod yX12_holds ∈ gT_ := gm_ 1329 (by decide +kernel)
theorem w_41 : Cond.selects "UrnHeapModel" yX12_holds yX12_holds ∈ gT_ := gm_ 41 (by decide +kernel)
theorem w_1334 : Cond.code yX12_held cX12_held 4 (some .int) ∈ gT_ := gm_ 1334 (by decide +kernel)
theorem w_1333 : Cond.instanceMethod yX12_held ∈ gT_ := gm_ 1333 (by decide +kernel)
theorem w_42 : Cond.selects "UrnHeapModel" yX12_held yX12_held ∈ gT_ := gm_ 42 (by decide +kernel)
theorem w_1358 : Cond.code yX12_stepsOn cX12_stepsOn 2 (some .int) ∈ gT_ := gm_ 1358 (by decide +kernel)
theorem w_1357 : Cond.instanceMethod yX12_stepsOn ∈ gT_ := gm_ 1357 (by decide +kernel)
theorem w_44 : Cond.selects "UrnHeapModel" yX12_stepsOn yX12_stepsOn ∈ gT_ := gm_ 44 (by decide +kernel)
theorem w_1394 : Cond.code yX12_wholeRound cX12_wholeRound 4 (some .int) ∈ gT_ := gm_ 1394 (by decide +kernel)
theorem w_1393 : Cond.instanceMethod yX12_wholeRound ∈ gT_ := gm_ 1393 (by decide +kernel)
theorem w_52 : Cond.selects "UrnHeapModel" yX12_wholeRound yX12_wholeRound ∈ gT_ := gm_ 52 (by decide +kernel)
theorem w_1402 : Cond.code yX12_doesRite cX12_doesRite 3 (some .int) ∈ gT_ := gm_ 1402 (by decide +kernel)
theorem w_1401 : Cond.instanceMethod yX12_doesRite ∈ gT_ := gm_ 1401 (by decide +kernel)
theorem w_53 : Cond.selects "UrnHeapModel" yX12_doesRite yX12_doesRite ∈ gT_ := gm_ 53 (by decide +kernel)
theorem w_1426 : Cond.code yX12_nears cX12_nears 3 none ∈ gT_ := gm_ 1426 (by decide +kernel)
theorem w_1425 : Cond.instanceMethod yX12_nears ∈ gT_ := gm_ 1425 (by decide +kernel)
theorem w_55 : Cond.selects "UrnHeapModel" yX12_nears yX12_nears ∈ gT_ := gm_ 55 (by decide +kernel)
theorem w_1422 : Cond.code yX12_measures cX12_measures 6 none ∈ gT_ := gm_ 1422 (by decide +kernel)
theorem w_1421 : Cond.instanceMethod yX12_measures ∈ gT_ := gm_ 1421 (by decide +kernel)
theorem w_54 : Cond.selects "UrnHeapModel" yX12_measures yX12_measures ∈ gT_ := gm_ 54 (by decide +kernel)
theorem w_1430 : Cond.code yX12_reached cX12_reached 3 (some .int) ∈ gT_ := gm_ 1430 (by decide +kernel)
theorem w_1429 : Cond.instanceMethod yX12_reached ∈ gT_ := gm_ 1429 (by decide +kernel)
theorem w_56 : Cond.selects "UrnHeapModel" yX12_reached yX12_reached ∈ gT_ := gm_ 56 (by decide +kernel)
theorem w_1418 : Cond.code yX12_live cX12_live 1 (some .int) ∈ gT_ := gm_ 1418 (by decide +kernel)
theorem w_1416 : Cond.instanceMethod yX12_live ∈ gT_ := gm_ 1416 (by decide +kernel)
theorem w_1417 : Cond.selects "UrnHeapModel" yX12_live yX12_live ∈ gT_ := gm_ 1417 (by decide +kernel)
theorem w_1455 : Cond.code yX12_urns cX12_urns 3 (some .int) ∈ gT_ := gm_ 1455 (by decide +kernel)
theorem w_1454 : Cond.instanceMethod yX12_urns ∈ gT_ := gm_ 1454 (by decide +kernel)
theorem w_57 : Cond.selects "UrnHeapModel" yX12_urns yX12_urns ∈ gT_ := gm_ 57 (by decide +kernel)
theorem w_1487 : Cond.code yX12_tells cX12_tells 3 none ∈ gT_ := gm_ 1487 (by decide +kernel)
theorem w_1486 : Cond.instanceMethod yX12_tells ∈ gT_ := gm_ 1486 (by decide +kernel)
theorem w_62 : Cond.selects "UrnHeapModel" yX12_tells yX12_tells ∈ gT_ := gm_ 62 (by decide +kernel)
theorem w_1479 : Cond.code yX12_here cX12_here 1 (some .int) ∈ gT_ := gm_ 1479 (by decide +kernel)
theorem w_1478 : Cond.instanceMethod yX12_here ∈ gT_ := gm_ 1478 (by decide +kernel)
theorem w_60 : Cond.selects "UrnHeapModel" yX12_here yX12_here ∈ gT_ := gm_ 60 (by decide +kernel)
theorem w_1532 : Cond.code yX12_writes cX12_writes 2 none ∈ gT_ := gm_ 1532 (by decide +kernel)
theorem w_1531 : Cond.instanceMethod yX12_writes ∈ gT_ := gm_ 1531 (by decide +kernel)
theorem w_69 : Cond.selects "UrnHeapModel" yX12_writes yX12_writes ∈ gT_ := gm_ 69 (by decide +kernel)
theorem w_1528 : Cond.code yX12_writesNumber cX12_writesNumber 2 none ∈ gT_ := gm_ 1528 (by decide +kernel)
theorem w_1527 : Cond.instanceMethod yX12_writesNumber ∈ gT_ := gm_ 1527 (by decide +kernel)
theorem w_68 : Cond.selects "UrnHeapModel" yX12_writesNumber yX12_writesNumber ∈ gT_ := gm_ 68 (by decide +kernel)
theorem w_1572 : Cond.code yX12_isThere cX12_isThere 2 (some .boolean) ∈ gT_ := gm_ 1572 (by decide +kernel)
theorem w_1571 : Cond.instanceMethod yX12_isThere ∈ gT_ := gm_ 1571 (by decide +kernel)
theorem w_74 : Cond.selects "UrnHeapModel" yX12_isThere yX12_isThere ∈ gT_ := gm_ 74 (by decide +kernel)
theorem w_1556 : Cond.code yX12_manyUrns cX12_manyUrns 3 (some .int) ∈ gT_ := gm_ 1556 (by decide +kernel)
theorem w_1555 : Cond.instanceMethod yX12_manyUrns ∈ gT_ := gm_ 1555 (by decide +kernel)
theorem w_71 : Cond.selects "UrnHeapModel" yX12_manyUrns yX12_manyUrns ∈ gT_ := gm_ 71 (by decide +kernel)
theorem ca_X12_changed : ca_ yX12_changed cX12_changed 3 (some .int) 1 := ⟨w_91, w_1259, by decide, by decide, by decide +kernel⟩
theorem cv_X12_changed : cv_ yX12_changed := ⟨w_1258, w_31⟩
theorem ca_X12_in : ca_ yX12_in cX12_in 3 (some .boolean) 3 := ⟨w_91, w_1274, by decide, by decide, by decide +kernel⟩
theorem cs_X12_in : Cond.static yX12_in ∈ gT_ := w_1273
theorem ca_X12_at : ca_ yX12_at cX12_at 2 (some .int) 2 := ⟨w_91, w_1170, by decide, by decide, by decide +kernel⟩
theorem cs_X12_at : Cond.static yX12_at ∈ gT_ := w_1169
theorem ca_X12_greys : ca_ yX12_greys cX12_greys 2 none 1 := ⟨w_91, w_1286, by decide, by decide, by decide +kernel⟩
theorem cv_X12_greys : cv_ yX12_greys := ⟨w_1285, w_36⟩
theorem ca_X12_greysIfWhite : ca_ yX12_greysIfWhite cX12_greysIfWhite 2 none 1 := ⟨w_91, w_1282, by decide, by decide, by decide +kernel⟩
theorem cv_X12_greysIfWhite : cv_ yX12_greysIfWhite := ⟨w_1281, w_35⟩
theorem ca_X12_empties : ca_ yX12_empties cX12_empties 3 none 1 := ⟨w_91, w_1167, by decide, by decide, by decide +kernel⟩
theorem cv_X12_empties : cv_ yX12_empties := ⟨w_1166, w_25⟩
theorem ca_X12_frees : ca_ yX12_frees cX12_frees 4 none 1 := ⟨w_91, w_1374, by decide, by decide, by decide +kernel⟩
theorem cv_X12_frees : cv_ yX12_frees := ⟨w_1373, w_48⟩
theorem ca_X12_becomeDue : ca_ yX12_becomeDue cX12_becomeDue 3 (some .boolean) 0 := ⟨w_91, w_1382, by decide, by decide, by decide +kernel⟩
theorem cv_X12_becomeDue : cv_ yX12_becomeDue := ⟨w_1381, w_50⟩
theorem ca_X12_cutsWeak : ca_ yX12_cutsWeak cX12_cutsWeak 3 none 0 := ⟨w_91, w_1386, by decide, by decide, by decide +kernel⟩
theorem cv_X12_cutsWeak : cv_ yX12_cutsWeak := ⟨w_1385, w_51⟩
theorem ca_X12_blackens : ca_ yX12_blackens cX12_blackens 3 none 0 := ⟨w_91, w_1378, by decide, by decide, by decide +kernel⟩
theorem cv_X12_blackens : cv_ yX12_blackens := ⟨w_1377, w_49⟩
theorem ca_X12_sweeps : ca_ yX12_sweeps cX12_sweeps 2 none 0 := ⟨w_91, w_1370, by decide, by decide, by decide +kernel⟩
theorem cv_X12_sweeps : cv_ yX12_sweeps := ⟨w_1369, w_47⟩
theorem ca_X12_part : ca_ yX12_part cX12_part 1 none 0 := ⟨w_91, w_1366, by decide, by decide, by decide +kernel⟩
theorem cv_X12_part : cv_ yX12_part := ⟨w_1365, w_46⟩
theorem ca_X12_done : ca_ yX12_done cX12_done 2 (some .int) 1 := ⟨w_91, w_1251, by decide, by decide, by decide +kernel⟩
theorem cv_X12_done : cv_ yX12_done := ⟨w_1250, w_29⟩
theorem ca_X12_refused : ca_ yX12_refused cX12_refused 3 (some .int) 2 := ⟨w_91, w_1247, by decide, by decide, by decide +kernel⟩
theorem cv_X12_refused : cv_ yX12_refused := ⟨w_1246, w_28⟩
theorem ca_X12_isUrn : ca_ yX12_isUrn cX12_isUrn 2 (some .boolean) 1 := ⟨w_91, w_1271, by decide, by decide, by decide +kernel⟩
theorem cv_X12_isUrn : cv_ yX12_isUrn := ⟨w_1270, w_33⟩
theorem ca_X12_isDoomed : ca_ yX12_isDoomed cX12_isDoomed 2 (some .boolean) 1 := ⟨w_91, w_1278, by decide, by decide, by decide +kernel⟩
theorem cv_X12_isDoomed : cv_ yX12_isDoomed := ⟨w_1277, w_34⟩
theorem ca_X12_partsOn : ca_ yX12_partsOn cX12_partsOn 3 (some .int) 1 := ⟨w_91, w_1362, by decide, by decide, by decide +kernel⟩
theorem cv_X12_partsOn : cv_ yX12_partsOn := ⟨w_1361, w_45⟩
theorem ca_X12_beginsRound : ca_ yX12_beginsRound cX12_beginsRound 2 (some .int) 0 := ⟨w_91, w_1350, by decide, by decide, by decide +kernel⟩
theorem cv_X12_beginsRound : cv_ yX12_beginsRound := ⟨w_1349, w_43⟩
theorem ca_X12_remembers : ca_ yX12_remembers cX12_remembers 2 none 0 := ⟨w_91, w_1239, by decide, by decide, by decide +kernel⟩
theorem cv_X12_remembers : cv_ yX12_remembers := ⟨w_1238, w_26⟩
theorem ca_X12_makes : ca_ yX12_makes cX12_makes 3 (some .int) 1 := ⟨w_91, w_1243, by decide, by decide, by decide +kernel⟩
theorem cv_X12_makes : cv_ yX12_makes := ⟨w_1242, w_27⟩
theorem ca_X12_ends : ca_ yX12_ends cX12_ends 2 (some .int) 1 := ⟨w_91, w_1255, by decide, by decide, by decide +kernel⟩
theorem cv_X12_ends : cv_ yX12_ends := ⟨w_1254, w_30⟩
theorem ca_X12_ties : ca_ yX12_ties cX12_ties 5 (some .int) 3 := ⟨w_91, w_1267, by decide, by decide, by decide +kernel⟩
theorem cv_X12_ties : cv_ yX12_ties := ⟨w_1266, w_32⟩
theorem ca_X12_unties : ca_ yX12_unties cX12_unties 4 (some .int) 2 := ⟨w_91, w_1294, by decide, by decide, by decide +kernel⟩
theorem cv_X12_unties : cv_ yX12_unties := ⟨w_1293, w_37⟩
theorem ca_X12_weakens : ca_ yX12_weakens cX12_weakens 4 (some .int) 2 := ⟨w_91, w_1302, by decide, by decide, by decide +kernel⟩
theorem cv_X12_weakens : cv_ yX12_weakens := ⟨w_1301, w_38⟩
theorem ca_X12_names : ca_ yX12_names cX12_names 4 (some .int) 2 := ⟨w_91, w_1314, by decide, by decide, by decide +kernel⟩
theorem cv_X12_names : cv_ yX12_names := ⟨w_1313, w_39⟩
theorem ca_X12_drops : ca_ yX12_drops cX12_drops 3 (some .int) 1 := ⟨w_91, w_1322, by decide, by decide, by decide +kernel⟩
theorem cv_X12_drops : cv_ yX12_drops := ⟨w_1321, w_40⟩
theorem ca_X12_holds : ca_ yX12_holds cX12_holds 4 (some .int) 1 := ⟨w_91, w_1330, by decide, by decide, by decide +kernel⟩
theorem cv_X12_holds : cv_ yX12_holds := ⟨w_1329, w_41⟩
theorem ca_X12_held : ca_ yX12_held cX12_held 4 (some .int) 1 := ⟨w_91, w_1334, by decide, by decide, by decide +kernel⟩
theorem cv_X12_held : cv_ yX12_held := ⟨w_1333, w_42⟩
theorem ca_X12_stepsOn : ca_ yX12_stepsOn cX12_stepsOn 2 (some .int) 1 := ⟨w_91, w_1358, by decide, by decide, by decide +kernel⟩
theorem cv_X12_stepsOn : cv_ yX12_stepsOn := ⟨w_1357, w_44⟩
theorem ca_X12_wholeRound : ca_ yX12_wholeRound cX12_wholeRound 4 (some .int) 0 := ⟨w_91, w_1394, by decide, by decide, by decide +kernel⟩
theorem cv_X12_wholeRound : cv_ yX12_wholeRound := ⟨w_1393, w_52⟩
theorem ca_X12_doesRite : ca_ yX12_doesRite cX12_doesRite 3 (some .int) 0 := ⟨w_91, w_1402, by decide, by decide, by decide +kernel⟩
theorem cv_X12_doesRite : cv_ yX12_doesRite := ⟨w_1401, w_53⟩
theorem ca_X12_nears : ca_ yX12_nears cX12_nears 3 none 2 := ⟨w_91, w_1426, by decide, by decide, by decide +kernel⟩
theorem cv_X12_nears : cv_ yX12_nears := ⟨w_1425, w_55⟩
theorem ca_X12_measures : ca_ yX12_measures cX12_measures 6 none 2 := ⟨w_91, w_1422, by decide, by decide, by decide +kernel⟩
theorem cv_X12_measures : cv_ yX12_measures := ⟨w_1421, w_54⟩
theorem ca_X12_reached : ca_ yX12_reached cX12_reached 3 (some .int) 0 := ⟨w_91, w_1430, by decide, by decide, by decide +kernel⟩
theorem cv_X12_reached : cv_ yX12_reached := ⟨w_1429, w_56⟩
theorem ca_X12_live : ca_ yX12_live cX12_live 1 (some .int) 0 := ⟨w_91, w_1418, by decide, by decide, by decide +kernel⟩
theorem cv_X12_live : cv_ yX12_live := ⟨w_1416, w_1417⟩
theorem ca_X12_urns : ca_ yX12_urns cX12_urns 3 (some .int) 0 := ⟨w_91, w_1455, by decide, by decide, by decide +kernel⟩
theorem cv_X12_urns : cv_ yX12_urns := ⟨w_1454, w_57⟩
theorem ca_X12_tells : ca_ yX12_tells cX12_tells 3 none 2 := ⟨w_91, w_1487, by decide, by decide, by decide +kernel⟩
theorem cv_X12_tells : cv_ yX12_tells := ⟨w_1486, w_62⟩
theorem ca_X12_here : ca_ yX12_here cX12_here 1 (some .int) 0 := ⟨w_91, w_1479, by decide, by decide, by decide +kernel⟩
theorem cv_X12_here : cv_ yX12_here := ⟨w_1478, w_60⟩
theorem ca_X12_writes : ca_ yX12_writes cX12_writes 2 none 1 := ⟨w_91, w_1532, by decide, by decide, by decide +kernel⟩
theorem cv_X12_writes : cv_ yX12_writes := ⟨w_1531, w_69⟩
theorem ca_X12_writesNumber : ca_ yX12_writesNumber cX12_writesNumber 2 none 1 := ⟨w_91, w_1528, by decide, by decide, by decide +kernel⟩
theorem cv_X12_writesNumber : cv_ yX12_writesNumber := ⟨w_1527, w_68⟩
theorem ca_X12_isThere : ca_ yX12_isThere cX12_isThere 2 (some .boolean) 1 := ⟨w_91, w_1572, by decide, by decide, by decide +kernel⟩
theorem cv_X12_isThere : cv_ yX12_isThere := ⟨w_1571, w_74⟩
theorem ca_X12_manyUrns : ca_ yX12_manyUrns cX12_manyUrns 3 (some .int) 0 := ⟨w_91, w_1556, by decide, by decide, by decide +kernel⟩
theorem cv_X12_manyUrns : cv_ yX12_manyUrns := ⟨w_1555, w_71⟩
end
section
theorem dX12_in_0 : decode cX12_in 0 = .ok (.iload_n 0, 1) := by decide +kernel
theorem dX12_in_1 : decode cX12_in 1 = .ok (.iload_n 1, 1) := by decide +kernel
theorem dX12_in_2 : decode cX12_in 2 = .ok (.if_icmp .lt 12, 3) := by decide +kernel
theorem dX12_in_5 : decode cX12_in 5 = .ok (.iload_n 0, 1) := by decide +kernel
theorem dX12_in_6 : decode cX12_in 6 = .ok (.iload_n 2, 1) := by decide +kernel
theorem dX12_in_7 : decode cX12_in 7 = .ok (.if_icmp .gt 7, 3) := by decide +kernel
theorem dX12_in_10 : decode cX12_in 10 = .ok (.iconst 1, 1) := by decide +kernel
theorem dX12_in_11 : decode cX12_in 11 = .ok (.goto 4, 3) := by decide +kernel
theorem dX12_in_14 : decode cX12_in 14 = .ok (.iconst 0, 1) := by decide +kernel
theorem dX12_in_15 : decode cX12_in 15 = .ok (.ireturn, 1) := by decide +kernel
theorem dX12_remembers_0 : decode cX12_remembers 0 = .ok (.iconst 0, 1) := by decide +kernel
theorem dX12_remembers_1 : decode cX12_remembers 1 = .ok (.istore_n 1, 1) := by decide +kernel
theorem dX12_remembers_2 : decode cX12_remembers 2 = .ok (.iload_n 1, 1) := by decide +kernel
theorem dX12_remembers_3 : decode cX12_remembers 3 = .ok (.sipush 293, 3) := by decide +kernel
theorem dX12_remembers_6 : decode cX12_remembers 6 = .ok (.if_icmp .ge 21, 3) := by decide +kernel
theorem dX12_remembers_9 : decode cX12_remembers 9 = .ok (.aload_n 0, 1) := by decide +kernel
theorem dX12_remembers_10 : decode cX12_remembers 10 = .ok (.getfield 13, 3) := by decide +kernel
theorem dX12_remembers_13 : decode cX12_remembers 13 = .ok (.iload_n 1, 1) := by decide +kernel
theorem dX12_remembers_14 : decode cX12_remembers 14 = .ok (.aload_n 0, 1) := by decide +kernel
theorem dX12_remembers_15 : decode cX12_remembers 15 = .ok (.getfield 7, 3) := by decide +kernel
theorem dX12_remembers_18 : decode cX12_remembers 18 = .ok (.iload_n 1, 1) := by decide +kernel
theorem dX12_remembers_19 : decode cX12_remembers 19 = .ok (.iaload, 1) := by decide +kernel
theorem dX12_remembers_20 : decode cX12_remembers 20 = .ok (.iastore, 1) := by decide +kernel
theorem dX12_remembers_21 : decode cX12_remembers 21 = .ok (.iinc 1 1, 3) := by decide +kernel
theorem dX12_remembers_24 : decode cX12_remembers 24 = .ok (.goto (-22), 3) := by decide +kernel
theorem dX12_remembers_27 : decode cX12_remembers 27 = .ok (.return_, 1) := by decide +kernel
theorem dX12_changed_0 : decode cX12_changed 0 = .ok (.aload_n 0, 1) := by decide +kernel
theorem dX12_changed_1 : decode cX12_changed 1 = .ok (.getfield 38, 3) := by decide +kernel
theorem dX12_changed_4 : decode cX12_changed 4 = .ok (.bipush 8, 2) := by decide +kernel
theorem dX12_changed_6 : decode cX12_changed 6 = .ok (.if_icmp .ne 37, 3) := by decide +kernel
theorem dX12_changed_9 : decode cX12_changed 9 = .ok (.iconst 0, 1) := by decide +kernel
theorem dX12_changed_10 : decode cX12_changed 10 = .ok (.istore_n 2, 1) := by decide +kernel
theorem dX12_changed_11 : decode cX12_changed 11 = .ok (.iload_n 2, 1) := by decide +kernel
theorem dX12_changed_12 : decode cX12_changed 12 = .ok (.sipush 2051, 3) := by decide +kernel
theorem dX12_changed_15 : decode cX12_changed 15 = .ok (.if_icmp .ge 25, 3) := by decide +kernel
theorem dX12_changed_18 : decode cX12_changed 18 = .ok (.aload_n 0, 1) := by decide +kernel
theorem dX12_changed_19 : decode cX12_changed 19 = .ok (.getfield 19, 3) := by decide +kernel
theorem dX12_changed_22 : decode cX12_changed 22 = .ok (.iload_n 2, 1) := by decide +kernel
theorem dX12_changed_23 : decode cX12_changed 23 = .ok (.aload_n 0, 1) := by decide +kernel
theorem dX12_changed_24 : decode cX12_changed 24 = .ok (.getfield 19, 3) := by decide +kernel
theorem dX12_changed_27 : decode cX12_changed 27 = .ok (.iload_n 2, 1) := by decide +kernel
theorem dX12_changed_28 : decode cX12_changed 28 = .ok (.sipush 293, 3) := by decide +kernel
theorem dX12_changed_31 : decode cX12_changed 31 = .ok (.iadd, 1) := by decide +kernel
theorem dX12_changed_32 : decode cX12_changed 32 = .ok (.iaload, 1) := by decide +kernel
theorem dX12_changed_33 : decode cX12_changed 33 = .ok (.iastore, 1) := by decide +kernel
theorem dX12_changed_34 : decode cX12_changed 34 = .ok (.iinc 2 1, 3) := by decide +kernel
theorem dX12_changed_37 : decode cX12_changed 37 = .ok (.goto (-26), 3) := by decide +kernel
theorem dX12_changed_40 : decode cX12_changed 40 = .ok (.goto 13, 3) := by decide +kernel
theorem dX12_changed_43 : decode cX12_changed 43 = .ok (.aload_n 0, 1) := by decide +kernel
theorem dX12_changed_44 : decode cX12_changed 44 = .ok (.dup, 1) := by decide +kernel
theorem dX12_changed_45 : decode cX12_changed 45 = .ok (.getfield 38, 3) := by decide +kernel
theorem dX12_changed_48 : decode cX12_changed 48 = .ok (.iconst 1, 1) := by decide +kernel
theorem dX12_changed_49 : decode cX12_changed 49 = .ok (.iadd, 1) := by decide +kernel
theorem dX12_changed_50 : decode cX12_changed 50 = .ok (.putfield 38, 3) := by decide +kernel
theorem dX12_changed_53 : decode cX12_changed 53 = .ok (.iconst 0, 1) := by decide +kernel
theorem dX12_changed_54 : decode cX12_changed 54 = .ok (.istore_n 2, 1) := by decide +kernel
theorem dX12_changed_55 : decode cX12_changed 55 = .ok (.iload_n 2, 1) := by decide +kernel
theorem dX12_changed_56 : decode cX12_changed 56 = .ok (.sipush 293, 3) := by decide +kernel
theorem dX12_changed_59 : decode cX12_changed 59 = .ok (.if_icmp .ge 32, 3) := by decide +kernel
theorem dX12_changed_62 : decode cX12_changed 62 = .ok (.aload_n 0, 1) := by decide +kernel
theorem dX12_changed_63 : decode cX12_changed 63 = .ok (.getfield 19, 3) := by decide +kernel
theorem dX12_changed_66 : decode cX12_changed 66 = .ok (.sipush 293, 3) := by decide +kernel
theorem dX12_changed_69 : decode cX12_changed 69 = .ok (.aload_n 0, 1) := by decide +kernel
theorem dX12_changed_70 : decode cX12_changed 70 = .ok (.getfield 38, 3) := by decide +kernel
theorem dX12_changed_73 : decode cX12_changed 73 = .ok (.iconst 1, 1) := by decide +kernel
theorem dX12_changed_74 : decode cX12_changed 74 = .ok (.isub, 1) := by decide +kernel
theorem dX12_changed_75 : decode cX12_changed 75 = .ok (.imul, 1) := by decide +kernel
theorem dX12_changed_76 : decode cX12_changed 76 = .ok (.iload_n 2, 1) := by decide +kernel
theorem dX12_changed_77 : decode cX12_changed 77 = .ok (.iadd, 1) := by decide +kernel
theorem dX12_changed_78 : decode cX12_changed 78 = .ok (.aload_n 0, 1) := by decide +kernel
theorem dX12_changed_79 : decode cX12_changed 79 = .ok (.getfield 13, 3) := by decide +kernel
theorem dX12_changed_82 : decode cX12_changed 82 = .ok (.iload_n 2, 1) := by decide +kernel
theorem dX12_changed_83 : decode cX12_changed 83 = .ok (.iaload, 1) := by decide +kernel
theorem dX12_changed_84 : decode cX12_changed 84 = .ok (.iastore, 1) := by decide +kernel
theorem dX12_changed_85 : decode cX12_changed 85 = .ok (.iinc 2 1, 3) := by decide +kernel
theorem dX12_changed_88 : decode cX12_changed 88 = .ok (.goto (-33), 3) := by decide +kernel
theorem dX12_changed_91 : decode cX12_changed 91 = .ok (.iload_n 1, 1) := by decide +kernel
theorem dX12_changed_92 : decode cX12_changed 92 = .ok (.ireturn, 1) := by decide +kernel
theorem dX12_refused_0 : decode cX12_refused 0 = .ok (.aload_n 0, 1) := by decide +kernel
theorem dX12_refused_1 : decode cX12_refused 1 = .ok (.iload_n 2, 1) := by decide +kernel
theorem dX12_refused_2 : decode cX12_refused 2 = .ok (.putfield 42, 3) := by decide +kernel
theorem dX12_refused_5 : decode cX12_refused 5 = .ok (.iload_n 1, 1) := by decide +kernel
theorem dX12_refused_6 : decode cX12_refused 6 = .ok (.ireturn, 1) := by decide +kernel
theorem dX12_done_0 : decode cX12_done 0 = .ok (.aload_n 0, 1) := by decide +kernel
theorem dX12_done_1 : decode cX12_done 1 = .ok (.iload_n 1, 1) := by decide +kernel
theorem dX12_done_2 : decode cX12_done 2 = .ok (.putfield 45, 3) := by decide +kernel
theorem dX12_done_5 : decode cX12_done 5 = .ok (.iconst 0, 1) := by decide +kernel
theorem dX12_done_6 : decode cX12_done 6 = .ok (.ireturn, 1) := by decide +kernel
theorem dX12_ends_0 : decode cX12_ends 0 = .ok (.iload_n 1, 1) := by decide +kernel
theorem dX12_ends_1 : decode cX12_ends 1 = .ok (.ifCond .ne 12, 3) := by decide +kernel
theorem dX12_ends_4 : decode cX12_ends 4 = .ok (.aload_n 0, 1) := by decide +kernel
theorem dX12_ends_5 : decode cX12_ends 5 = .ok (.aload_n 0, 1) := by decide +kernel
theorem dX12_ends_6 : decode cX12_ends 6 = .ok (.getfield 45, 3) := by decide +kernel
theorem dX12_ends_9 : decode cX12_ends 9 = .ok (.invokevirtual 48, 3) := by decide +kernel
theorem dX12_ends_12 : decode cX12_ends 12 = .ok (.ireturn, 1) := by decide +kernel
theorem dX12_ends_13 : decode cX12_ends 13 = .ok (.iload_n 1, 1) := by decide +kernel
theorem dX12_ends_14 : decode cX12_ends 14 = .ok (.ifCond .ge 5, 3) := by decide +kernel
theorem dX12_ends_17 : decode cX12_ends 17 = .ok (.iload_n 1, 1) := by decide +kernel
theorem dX12_ends_18 : decode cX12_ends 18 = .ok (.ireturn, 1) := by decide +kernel
theorem dX12_ends_19 : decode cX12_ends 19 = .ok (.aload_n 0, 1) := by decide +kernel
theorem dX12_ends_20 : decode cX12_ends 20 = .ok (.iload_n 1, 1) := by decide +kernel
theorem dX12_ends_21 : decode cX12_ends 21 = .ok (.putfield 52, 3) := by decide +kernel
theorem dX12_ends_24 : decode cX12_ends 24 = .ok (.aload_n 0, 1) := by decide +kernel
theorem dX12_ends_25 : decode cX12_ends 25 = .ok (.aload_n 0, 1) := by decide +kernel
theorem dX12_ends_26 : decode cX12_ends 26 = .ok (.getfield 42, 3) := by decide +kernel
theorem dX12_ends_29 : decode cX12_ends 29 = .ok (.putfield 55, 3) := by decide +kernel
theorem dX12_ends_32 : decode cX12_ends 32 = .ok (.bipush (-14), 2) := by decide +kernel
theorem dX12_ends_34 : decode cX12_ends 34 = .ok (.ireturn, 1) := by decide +kernel
theorem dX12_isUrn_0 : decode cX12_isUrn 0 = .ok (.iload_n 1, 1) := by decide +kernel
theorem dX12_isUrn_1 : decode cX12_isUrn 1 = .ok (.iconst 0, 1) := by decide +kernel
theorem dX12_isUrn_2 : decode cX12_isUrn 2 = .ok (.bipush 23, 2) := by decide +kernel
theorem dX12_isUrn_4 : decode cX12_isUrn 4 = .ok (.invokestatic 58, 3) := by decide +kernel
theorem dX12_isUrn_7 : decode cX12_isUrn 7 = .ok (.ifCond .eq 20, 3) := by decide +kernel
theorem dX12_isUrn_10 : decode cX12_isUrn 10 = .ok (.aload_n 0, 1) := by decide +kernel
theorem dX12_isUrn_11 : decode cX12_isUrn 11 = .ok (.getfield 7, 3) := by decide +kernel
theorem dX12_isUrn_14 : decode cX12_isUrn 14 = .ok (.bipush 17, 2) := by decide +kernel
theorem dX12_isUrn_16 : decode cX12_isUrn 16 = .ok (.iload_n 1, 1) := by decide +kernel
theorem dX12_isUrn_17 : decode cX12_isUrn 17 = .ok (.iadd, 1) := by decide +kernel
theorem dX12_isUrn_18 : decode cX12_isUrn 18 = .ok (.iaload, 1) := by decide +kernel
theorem dX12_isUrn_19 : decode cX12_isUrn 19 = .ok (.iconst 1, 1) := by decide +kernel
theorem dX12_isUrn_20 : decode cX12_isUrn 20 = .ok (.if_icmp .ne 7, 3) := by decide +kernel
theorem dX12_isUrn_23 : decode cX12_isUrn 23 = .ok (.iconst 1, 1) := by decide +kernel
theorem dX12_isUrn_24 : decode cX12_isUrn 24 = .ok (.goto 4, 3) := by decide +kernel
theorem dX12_isUrn_27 : decode cX12_isUrn 27 = .ok (.iconst 0, 1) := by decide +kernel
theorem dX12_isUrn_28 : decode cX12_isUrn 28 = .ok (.ireturn, 1) := by decide +kernel
theorem dX12_at_0 : decode cX12_at 0 = .ok (.sipush 137, 3) := by decide +kernel
theorem dX12_at_3 : decode cX12_at 3 = .ok (.iconst 4, 1) := by decide +kernel
theorem dX12_at_4 : decode cX12_at 4 = .ok (.iload_n 0, 1) := by decide +kernel
theorem dX12_at_5 : decode cX12_at 5 = .ok (.imul, 1) := by decide +kernel
theorem dX12_at_6 : decode cX12_at 6 = .ok (.iadd, 1) := by decide +kernel
theorem dX12_at_7 : decode cX12_at 7 = .ok (.iload_n 1, 1) := by decide +kernel
theorem dX12_at_8 : decode cX12_at 8 = .ok (.iadd, 1) := by decide +kernel
theorem dX12_at_9 : decode cX12_at 9 = .ok (.ireturn, 1) := by decide +kernel
theorem dX12_empties_0 : decode cX12_empties 0 = .ok (.aload_n 0, 1) := by decide +kernel
theorem dX12_empties_1 : decode cX12_empties 1 = .ok (.getfield 7, 3) := by decide +kernel
theorem dX12_empties_4 : decode cX12_empties 4 = .ok (.bipush 17, 2) := by decide +kernel
theorem dX12_empties_6 : decode cX12_empties 6 = .ok (.iload_n 1, 1) := by decide +kernel
theorem dX12_empties_7 : decode cX12_empties 7 = .ok (.iadd, 1) := by decide +kernel
theorem dX12_empties_8 : decode cX12_empties 8 = .ok (.iconst 0, 1) := by decide +kernel
theorem dX12_empties_9 : decode cX12_empties 9 = .ok (.iastore, 1) := by decide +kernel
theorem dX12_empties_10 : decode cX12_empties 10 = .ok (.aload_n 0, 1) := by decide +kernel
theorem dX12_empties_11 : decode cX12_empties 11 = .ok (.getfield 7, 3) := by decide +kernel
theorem dX12_empties_14 : decode cX12_empties 14 = .ok (.bipush 41, 2) := by decide +kernel
theorem dX12_empties_16 : decode cX12_empties 16 = .ok (.iload_n 1, 1) := by decide +kernel
theorem dX12_empties_17 : decode cX12_empties 17 = .ok (.iadd, 1) := by decide +kernel
theorem dX12_empties_18 : decode cX12_empties 18 = .ok (.iconst 0, 1) := by decide +kernel
theorem dX12_empties_19 : decode cX12_empties 19 = .ok (.iastore, 1) := by decide +kernel
theorem dX12_empties_20 : decode cX12_empties 20 = .ok (.aload_n 0, 1) := by decide +kernel
theorem dX12_empties_21 : decode cX12_empties 21 = .ok (.getfield 7, 3) := by decide +kernel
theorem dX12_empties_24 : decode cX12_empties 24 = .ok (.bipush 65, 2) := by decide +kernel
theorem dX12_empties_26 : decode cX12_empties 26 = .ok (.iload_n 1, 1) := by decide +kernel
theorem dX12_empties_27 : decode cX12_empties 27 = .ok (.iadd, 1) := by decide +kernel
theorem dX12_empties_28 : decode cX12_empties 28 = .ok (.iconst 0, 1) := by decide +kernel
theorem dX12_empties_29 : decode cX12_empties 29 = .ok (.iastore, 1) := by decide +kernel
theorem dX12_empties_30 : decode cX12_empties 30 = .ok (.aload_n 0, 1) := by decide +kernel
theorem dX12_empties_31 : decode cX12_empties 31 = .ok (.getfield 7, 3) := by decide +kernel
theorem dX12_empties_34 : decode cX12_empties 34 = .ok (.bipush 89, 2) := by decide +kernel
theorem dX12_empties_36 : decode cX12_empties 36 = .ok (.iload_n 1, 1) := by decide +kernel
theorem dX12_empties_37 : decode cX12_empties 37 = .ok (.iadd, 1) := by decide +kernel
theorem dX12_empties_38 : decode cX12_empties 38 = .ok (.iconst 0, 1) := by decide +kernel
theorem dX12_empties_39 : decode cX12_empties 39 = .ok (.iastore, 1) := by decide +kernel
theorem dX12_empties_40 : decode cX12_empties 40 = .ok (.aload_n 0, 1) := by decide +kernel
theorem dX12_empties_41 : decode cX12_empties 41 = .ok (.getfield 7, 3) := by decide +kernel
theorem dX12_empties_44 : decode cX12_empties 44 = .ok (.bipush 113, 2) := by decide +kernel
theorem dX12_empties_46 : decode cX12_empties 46 = .ok (.iload_n 1, 1) := by decide +kernel
theorem dX12_empties_47 : decode cX12_empties 47 = .ok (.iadd, 1) := by decide +kernel
theorem dX12_empties_48 : decode cX12_empties 48 = .ok (.bipush (-15), 2) := by decide +kernel
theorem dX12_empties_50 : decode cX12_empties 50 = .ok (.iastore, 1) := by decide +kernel
theorem dX12_empties_51 : decode cX12_empties 51 = .ok (.iconst 0, 1) := by decide +kernel
theorem dX12_empties_52 : decode cX12_empties 52 = .ok (.istore_n 2, 1) := by decide +kernel
theorem dX12_empties_53 : decode cX12_empties 53 = .ok (.iload_n 2, 1) := by decide +kernel
theorem dX12_empties_54 : decode cX12_empties 54 = .ok (.iconst 4, 1) := by decide +kernel
theorem dX12_empties_55 : decode cX12_empties 55 = .ok (.if_icmp .ge 21, 3) := by decide +kernel
theorem dX12_empties_58 : decode cX12_empties 58 = .ok (.aload_n 0, 1) := by decide +kernel
theorem dX12_empties_59 : decode cX12_empties 59 = .ok (.getfield 7, 3) := by decide +kernel
theorem dX12_empties_62 : decode cX12_empties 62 = .ok (.iload_n 1, 1) := by decide +kernel
theorem dX12_empties_63 : decode cX12_empties 63 = .ok (.iload_n 2, 1) := by decide +kernel
theorem dX12_empties_64 : decode cX12_empties 64 = .ok (.invokestatic 62, 3) := by decide +kernel
theorem dX12_empties_67 : decode cX12_empties 67 = .ok (.bipush (-15), 2) := by decide +kernel
theorem dX12_empties_69 : decode cX12_empties 69 = .ok (.iastore, 1) := by decide +kernel
theorem dX12_empties_70 : decode cX12_empties 70 = .ok (.iinc 2 1, 3) := by decide +kernel
theorem dX12_empties_73 : decode cX12_empties 73 = .ok (.goto (-20), 3) := by decide +kernel
theorem dX12_empties_76 : decode cX12_empties 76 = .ok (.return_, 1) := by decide +kernel
theorem dX12_isDoomed_0 : decode cX12_isDoomed 0 = .ok (.aload_n 0, 1) := by decide +kernel
theorem dX12_isDoomed_1 : decode cX12_isDoomed 1 = .ok (.getfield 7, 3) := by decide +kernel
theorem dX12_isDoomed_4 : decode cX12_isDoomed 4 = .ok (.iconst 0, 1) := by decide +kernel
theorem dX12_isDoomed_5 : decode cX12_isDoomed 5 = .ok (.iaload, 1) := by decide +kernel
theorem dX12_isDoomed_6 : decode cX12_isDoomed 6 = .ok (.iconst 2, 1) := by decide +kernel
theorem dX12_isDoomed_7 : decode cX12_isDoomed 7 = .ok (.if_icmp .ne 29, 3) := by decide +kernel
theorem dX12_isDoomed_10 : decode cX12_isDoomed 10 = .ok (.aload_n 0, 1) := by decide +kernel
theorem dX12_isDoomed_11 : decode cX12_isDoomed 11 = .ok (.getfield 7, 3) := by decide +kernel
theorem dX12_isDoomed_14 : decode cX12_isDoomed 14 = .ok (.bipush 41, 2) := by decide +kernel
theorem dX12_isDoomed_16 : decode cX12_isDoomed 16 = .ok (.iload_n 1, 1) := by decide +kernel
theorem dX12_isDoomed_17 : decode cX12_isDoomed 17 = .ok (.iadd, 1) := by decide +kernel
theorem dX12_isDoomed_18 : decode cX12_isDoomed 18 = .ok (.iaload, 1) := by decide +kernel
theorem dX12_isDoomed_19 : decode cX12_isDoomed 19 = .ok (.ifCond .ne 17, 3) := by decide +kernel
theorem dX12_isDoomed_22 : decode cX12_isDoomed 22 = .ok (.iload_n 1, 1) := by decide +kernel
theorem dX12_isDoomed_23 : decode cX12_isDoomed 23 = .ok (.aload_n 0, 1) := by decide +kernel
theorem dX12_isDoomed_24 : decode cX12_isDoomed 24 = .ok (.getfield 7, 3) := by decide +kernel
theorem dX12_isDoomed_27 : decode cX12_isDoomed 27 = .ok (.iconst 1, 1) := by decide +kernel
theorem dX12_isDoomed_28 : decode cX12_isDoomed 28 = .ok (.iaload, 1) := by decide +kernel
theorem dX12_isDoomed_29 : decode cX12_isDoomed 29 = .ok (.if_icmp .lt 7, 3) := by decide +kernel
theorem dX12_isDoomed_32 : decode cX12_isDoomed 32 = .ok (.iconst 1, 1) := by decide +kernel
theorem dX12_isDoomed_33 : decode cX12_isDoomed 33 = .ok (.goto 4, 3) := by decide +kernel
theorem dX12_isDoomed_36 : decode cX12_isDoomed 36 = .ok (.iconst 0, 1) := by decide +kernel
theorem dX12_isDoomed_37 : decode cX12_isDoomed 37 = .ok (.ireturn, 1) := by decide +kernel
theorem dX12_greys_0 : decode cX12_greys 0 = .ok (.aload_n 0, 1) := by decide +kernel
theorem dX12_greys_1 : decode cX12_greys 1 = .ok (.getfield 7, 3) := by decide +kernel
theorem dX12_greys_4 : decode cX12_greys 4 = .ok (.bipush 41, 2) := by decide +kernel
theorem dX12_greys_6 : decode cX12_greys 6 = .ok (.iload_n 1, 1) := by decide +kernel
theorem dX12_greys_7 : decode cX12_greys 7 = .ok (.iadd, 1) := by decide +kernel
theorem dX12_greys_8 : decode cX12_greys 8 = .ok (.iconst 1, 1) := by decide +kernel
theorem dX12_greys_9 : decode cX12_greys 9 = .ok (.iastore, 1) := by decide +kernel
theorem dX12_greys_10 : decode cX12_greys 10 = .ok (.aload_n 0, 1) := by decide +kernel
theorem dX12_greys_11 : decode cX12_greys 11 = .ok (.getfield 7, 3) := by decide +kernel
theorem dX12_greys_14 : decode cX12_greys 14 = .ok (.sipush 233, 3) := by decide +kernel
theorem dX12_greys_17 : decode cX12_greys 17 = .ok (.aload_n 0, 1) := by decide +kernel
theorem dX12_greys_18 : decode cX12_greys 18 = .ok (.getfield 7, 3) := by decide +kernel
theorem dX12_greys_21 : decode cX12_greys 21 = .ok (.bipush 8, 2) := by decide +kernel
theorem dX12_greys_23 : decode cX12_greys 23 = .ok (.iaload, 1) := by decide +kernel
theorem dX12_greys_24 : decode cX12_greys 24 = .ok (.iadd, 1) := by decide +kernel
theorem dX12_greys_25 : decode cX12_greys 25 = .ok (.iload_n 1, 1) := by decide +kernel
theorem dX12_greys_26 : decode cX12_greys 26 = .ok (.iastore, 1) := by decide +kernel
theorem dX12_greys_27 : decode cX12_greys 27 = .ok (.aload_n 0, 1) := by decide +kernel
theorem dX12_greys_28 : decode cX12_greys 28 = .ok (.getfield 7, 3) := by decide +kernel
theorem dX12_greys_31 : decode cX12_greys 31 = .ok (.bipush 8, 2) := by decide +kernel
theorem dX12_greys_33 : decode cX12_greys 33 = .ok (.dup2, 1) := by decide +kernel
theorem dX12_greys_34 : decode cX12_greys 34 = .ok (.iaload, 1) := by decide +kernel
theorem dX12_greys_35 : decode cX12_greys 35 = .ok (.iconst 1, 1) := by decide +kernel
theorem dX12_greys_36 : decode cX12_greys 36 = .ok (.iadd, 1) := by decide +kernel
theorem dX12_greys_37 : decode cX12_greys 37 = .ok (.iastore, 1) := by decide +kernel
theorem dX12_greys_38 : decode cX12_greys 38 = .ok (.return_, 1) := by decide +kernel
theorem dX12_greysIfWhite_0 : decode cX12_greysIfWhite 0 = .ok (.iload_n 1, 1) := by decide +kernel
theorem dX12_greysIfWhite_1 : decode cX12_greysIfWhite 1 = .ok (.bipush (-15), 2) := by decide +kernel
theorem dX12_greysIfWhite_3 : decode cX12_greysIfWhite 3 = .ok (.if_icmp .eq 20, 3) := by decide +kernel
theorem dX12_greysIfWhite_6 : decode cX12_greysIfWhite 6 = .ok (.aload_n 0, 1) := by decide +kernel
theorem dX12_greysIfWhite_7 : decode cX12_greysIfWhite 7 = .ok (.getfield 7, 3) := by decide +kernel
theorem dX12_greysIfWhite_10 : decode cX12_greysIfWhite 10 = .ok (.bipush 41, 2) := by decide +kernel
theorem dX12_greysIfWhite_12 : decode cX12_greysIfWhite 12 = .ok (.iload_n 1, 1) := by decide +kernel
theorem dX12_greysIfWhite_13 : decode cX12_greysIfWhite 13 = .ok (.iadd, 1) := by decide +kernel
theorem dX12_greysIfWhite_14 : decode cX12_greysIfWhite 14 = .ok (.iaload, 1) := by decide +kernel
theorem dX12_greysIfWhite_15 : decode cX12_greysIfWhite 15 = .ok (.ifCond .ne 8, 3) := by decide +kernel
theorem dX12_greysIfWhite_18 : decode cX12_greysIfWhite 18 = .ok (.aload_n 0, 1) := by decide +kernel
theorem dX12_greysIfWhite_19 : decode cX12_greysIfWhite 19 = .ok (.iload_n 1, 1) := by decide +kernel
theorem dX12_greysIfWhite_20 : decode cX12_greysIfWhite 20 = .ok (.invokevirtual 66, 3) := by decide +kernel
theorem dX12_greysIfWhite_23 : decode cX12_greysIfWhite 23 = .ok (.return_, 1) := by decide +kernel
theorem dX12_beginsRound_0 : decode cX12_beginsRound 0 = .ok (.aload_n 0, 1) := by decide +kernel
theorem dX12_beginsRound_1 : decode cX12_beginsRound 1 = .ok (.getfield 7, 3) := by decide +kernel
theorem dX12_beginsRound_4 : decode cX12_beginsRound 4 = .ok (.iconst 0, 1) := by decide +kernel
theorem dX12_beginsRound_5 : decode cX12_beginsRound 5 = .ok (.iconst 1, 1) := by decide +kernel
theorem dX12_beginsRound_6 : decode cX12_beginsRound 6 = .ok (.iastore, 1) := by decide +kernel
theorem dX12_beginsRound_7 : decode cX12_beginsRound 7 = .ok (.iconst 0, 1) := by decide +kernel
theorem dX12_beginsRound_8 : decode cX12_beginsRound 8 = .ok (.istore_n 1, 1) := by decide +kernel
theorem dX12_beginsRound_9 : decode cX12_beginsRound 9 = .ok (.iload_n 1, 1) := by decide +kernel
theorem dX12_beginsRound_10 : decode cX12_beginsRound 10 = .ok (.bipush 6, 2) := by decide +kernel
theorem dX12_beginsRound_12 : decode cX12_beginsRound 12 = .ok (.if_icmp .ge 22, 3) := by decide +kernel
theorem dX12_beginsRound_15 : decode cX12_beginsRound 15 = .ok (.aload_n 0, 1) := by decide +kernel
theorem dX12_beginsRound_16 : decode cX12_beginsRound 16 = .ok (.aload_n 0, 1) := by decide +kernel
theorem dX12_beginsRound_17 : decode cX12_beginsRound 17 = .ok (.getfield 7, 3) := by decide +kernel
theorem dX12_beginsRound_20 : decode cX12_beginsRound 20 = .ok (.bipush 11, 2) := by decide +kernel
theorem dX12_beginsRound_22 : decode cX12_beginsRound 22 = .ok (.iload_n 1, 1) := by decide +kernel
theorem dX12_beginsRound_23 : decode cX12_beginsRound 23 = .ok (.iadd, 1) := by decide +kernel
theorem dX12_beginsRound_24 : decode cX12_beginsRound 24 = .ok (.iaload, 1) := by decide +kernel
theorem dX12_beginsRound_25 : decode cX12_beginsRound 25 = .ok (.invokevirtual 69, 3) := by decide +kernel
theorem dX12_beginsRound_28 : decode cX12_beginsRound 28 = .ok (.iinc 1 1, 3) := by decide +kernel
theorem dX12_beginsRound_31 : decode cX12_beginsRound 31 = .ok (.goto (-22), 3) := by decide +kernel
theorem dX12_beginsRound_34 : decode cX12_beginsRound 34 = .ok (.iconst 0, 1) := by decide +kernel
theorem dX12_beginsRound_35 : decode cX12_beginsRound 35 = .ok (.istore_n 1, 1) := by decide +kernel
theorem dX12_beginsRound_36 : decode cX12_beginsRound 36 = .ok (.iload_n 1, 1) := by decide +kernel
theorem dX12_beginsRound_37 : decode cX12_beginsRound 37 = .ok (.aload_n 0, 1) := by decide +kernel
theorem dX12_beginsRound_38 : decode cX12_beginsRound 38 = .ok (.getfield 7, 3) := by decide +kernel
theorem dX12_beginsRound_41 : decode cX12_beginsRound 41 = .ok (.bipush 9, 2) := by decide +kernel
theorem dX12_beginsRound_43 : decode cX12_beginsRound 43 = .ok (.iaload, 1) := by decide +kernel
theorem dX12_beginsRound_44 : decode cX12_beginsRound 44 = .ok (.if_icmp .ge 23, 3) := by decide +kernel
theorem dX12_beginsRound_47 : decode cX12_beginsRound 47 = .ok (.aload_n 0, 1) := by decide +kernel
theorem dX12_beginsRound_48 : decode cX12_beginsRound 48 = .ok (.aload_n 0, 1) := by decide +kernel
theorem dX12_beginsRound_49 : decode cX12_beginsRound 49 = .ok (.getfield 7, 3) := by decide +kernel
theorem dX12_beginsRound_52 : decode cX12_beginsRound 52 = .ok (.sipush 257, 3) := by decide +kernel
theorem dX12_beginsRound_55 : decode cX12_beginsRound 55 = .ok (.iload_n 1, 1) := by decide +kernel
theorem dX12_beginsRound_56 : decode cX12_beginsRound 56 = .ok (.iadd, 1) := by decide +kernel
theorem dX12_beginsRound_57 : decode cX12_beginsRound 57 = .ok (.iaload, 1) := by decide +kernel
theorem dX12_beginsRound_58 : decode cX12_beginsRound 58 = .ok (.invokevirtual 69, 3) := by decide +kernel
theorem dX12_beginsRound_61 : decode cX12_beginsRound 61 = .ok (.iinc 1 1, 3) := by decide +kernel
theorem dX12_beginsRound_64 : decode cX12_beginsRound 64 = .ok (.goto (-28), 3) := by decide +kernel
theorem dX12_beginsRound_67 : decode cX12_beginsRound 67 = .ok (.aload_n 0, 1) := by decide +kernel
theorem dX12_beginsRound_68 : decode cX12_beginsRound 68 = .ok (.getfield 7, 3) := by decide +kernel
theorem dX12_beginsRound_71 : decode cX12_beginsRound 71 = .ok (.bipush 8, 2) := by decide +kernel
theorem dX12_beginsRound_73 : decode cX12_beginsRound 73 = .ok (.iaload, 1) := by decide +kernel
theorem dX12_beginsRound_74 : decode cX12_beginsRound 74 = .ok (.ireturn, 1) := by decide +kernel
theorem dX12_blackens_0 : decode cX12_blackens 0 = .ok (.aload_n 0, 1) := by decide +kernel
theorem dX12_blackens_1 : decode cX12_blackens 1 = .ok (.getfield 7, 3) := by decide +kernel
theorem dX12_blackens_4 : decode cX12_blackens 4 = .ok (.sipush 233, 3) := by decide +kernel
theorem dX12_blackens_7 : decode cX12_blackens 7 = .ok (.iaload, 1) := by decide +kernel
theorem dX12_blackens_8 : decode cX12_blackens 8 = .ok (.istore_n 1, 1) := by decide +kernel
theorem dX12_blackens_9 : decode cX12_blackens 9 = .ok (.aload_n 0, 1) := by decide +kernel
theorem dX12_blackens_10 : decode cX12_blackens 10 = .ok (.getfield 7, 3) := by decide +kernel
theorem dX12_blackens_13 : decode cX12_blackens 13 = .ok (.bipush 8, 2) := by decide +kernel
theorem dX12_blackens_15 : decode cX12_blackens 15 = .ok (.dup2, 1) := by decide +kernel
theorem dX12_blackens_16 : decode cX12_blackens 16 = .ok (.iaload, 1) := by decide +kernel
theorem dX12_blackens_17 : decode cX12_blackens 17 = .ok (.iconst 1, 1) := by decide +kernel
theorem dX12_blackens_18 : decode cX12_blackens 18 = .ok (.isub, 1) := by decide +kernel
theorem dX12_blackens_19 : decode cX12_blackens 19 = .ok (.iastore, 1) := by decide +kernel
theorem dX12_blackens_20 : decode cX12_blackens 20 = .ok (.iconst 0, 1) := by decide +kernel
theorem dX12_blackens_21 : decode cX12_blackens 21 = .ok (.istore_n 2, 1) := by decide +kernel
theorem dX12_blackens_22 : decode cX12_blackens 22 = .ok (.iload_n 2, 1) := by decide +kernel
theorem dX12_blackens_23 : decode cX12_blackens 23 = .ok (.aload_n 0, 1) := by decide +kernel
theorem dX12_blackens_24 : decode cX12_blackens 24 = .ok (.getfield 7, 3) := by decide +kernel
theorem dX12_blackens_27 : decode cX12_blackens 27 = .ok (.bipush 8, 2) := by decide +kernel
theorem dX12_blackens_29 : decode cX12_blackens 29 = .ok (.iaload, 1) := by decide +kernel
theorem dX12_blackens_30 : decode cX12_blackens 30 = .ok (.if_icmp .ge 31, 3) := by decide +kernel
theorem dX12_blackens_33 : decode cX12_blackens 33 = .ok (.aload_n 0, 1) := by decide +kernel
theorem dX12_blackens_34 : decode cX12_blackens 34 = .ok (.getfield 7, 3) := by decide +kernel
theorem dX12_blackens_37 : decode cX12_blackens 37 = .ok (.sipush 233, 3) := by decide +kernel
theorem dX12_blackens_40 : decode cX12_blackens 40 = .ok (.iload_n 2, 1) := by decide +kernel
theorem dX12_blackens_41 : decode cX12_blackens 41 = .ok (.iadd, 1) := by decide +kernel
theorem dX12_blackens_42 : decode cX12_blackens 42 = .ok (.aload_n 0, 1) := by decide +kernel
theorem dX12_blackens_43 : decode cX12_blackens 43 = .ok (.getfield 7, 3) := by decide +kernel
theorem dX12_blackens_46 : decode cX12_blackens 46 = .ok (.sipush 233, 3) := by decide +kernel
theorem dX12_blackens_49 : decode cX12_blackens 49 = .ok (.iload_n 2, 1) := by decide +kernel
theorem dX12_blackens_50 : decode cX12_blackens 50 = .ok (.iadd, 1) := by decide +kernel
theorem dX12_blackens_51 : decode cX12_blackens 51 = .ok (.iconst 1, 1) := by decide +kernel
theorem dX12_blackens_52 : decode cX12_blackens 52 = .ok (.iadd, 1) := by decide +kernel
theorem dX12_blackens_53 : decode cX12_blackens 53 = .ok (.iaload, 1) := by decide +kernel
theorem dX12_blackens_54 : decode cX12_blackens 54 = .ok (.iastore, 1) := by decide +kernel
theorem dX12_blackens_55 : decode cX12_blackens 55 = .ok (.iinc 2 1, 3) := by decide +kernel
theorem dX12_blackens_58 : decode cX12_blackens 58 = .ok (.goto (-36), 3) := by decide +kernel
theorem dX12_blackens_61 : decode cX12_blackens 61 = .ok (.aload_n 0, 1) := by decide +kernel
theorem dX12_blackens_62 : decode cX12_blackens 62 = .ok (.getfield 7, 3) := by decide +kernel
theorem dX12_blackens_65 : decode cX12_blackens 65 = .ok (.sipush 233, 3) := by decide +kernel
theorem dX12_blackens_68 : decode cX12_blackens 68 = .ok (.aload_n 0, 1) := by decide +kernel
theorem dX12_blackens_69 : decode cX12_blackens 69 = .ok (.getfield 7, 3) := by decide +kernel
theorem dX12_blackens_72 : decode cX12_blackens 72 = .ok (.bipush 8, 2) := by decide +kernel
theorem dX12_blackens_74 : decode cX12_blackens 74 = .ok (.iaload, 1) := by decide +kernel
theorem dX12_blackens_75 : decode cX12_blackens 75 = .ok (.iadd, 1) := by decide +kernel
theorem dX12_blackens_76 : decode cX12_blackens 76 = .ok (.iconst 0, 1) := by decide +kernel
theorem dX12_blackens_77 : decode cX12_blackens 77 = .ok (.iastore, 1) := by decide +kernel
theorem dX12_blackens_78 : decode cX12_blackens 78 = .ok (.aload_n 0, 1) := by decide +kernel
theorem dX12_blackens_79 : decode cX12_blackens 79 = .ok (.getfield 7, 3) := by decide +kernel
theorem dX12_blackens_82 : decode cX12_blackens 82 = .ok (.bipush 41, 2) := by decide +kernel
theorem dX12_blackens_84 : decode cX12_blackens 84 = .ok (.iload_n 1, 1) := by decide +kernel
theorem dX12_blackens_85 : decode cX12_blackens 85 = .ok (.iadd, 1) := by decide +kernel
theorem dX12_blackens_86 : decode cX12_blackens 86 = .ok (.iconst 2, 1) := by decide +kernel
theorem dX12_blackens_87 : decode cX12_blackens 87 = .ok (.iastore, 1) := by decide +kernel
theorem dX12_blackens_88 : decode cX12_blackens 88 = .ok (.iconst 0, 1) := by decide +kernel
theorem dX12_blackens_89 : decode cX12_blackens 89 = .ok (.istore_n 2, 1) := by decide +kernel
theorem dX12_blackens_90 : decode cX12_blackens 90 = .ok (.iload_n 2, 1) := by decide +kernel
theorem dX12_blackens_91 : decode cX12_blackens 91 = .ok (.iconst 4, 1) := by decide +kernel
theorem dX12_blackens_92 : decode cX12_blackens 92 = .ok (.if_icmp .ge 23, 3) := by decide +kernel
theorem dX12_blackens_95 : decode cX12_blackens 95 = .ok (.aload_n 0, 1) := by decide +kernel
theorem dX12_blackens_96 : decode cX12_blackens 96 = .ok (.aload_n 0, 1) := by decide +kernel
theorem dX12_blackens_97 : decode cX12_blackens 97 = .ok (.getfield 7, 3) := by decide +kernel
theorem dX12_blackens_100 : decode cX12_blackens 100 = .ok (.iload_n 1, 1) := by decide +kernel
theorem dX12_blackens_101 : decode cX12_blackens 101 = .ok (.iload_n 2, 1) := by decide +kernel
theorem dX12_blackens_102 : decode cX12_blackens 102 = .ok (.invokestatic 62, 3) := by decide +kernel
theorem dX12_blackens_105 : decode cX12_blackens 105 = .ok (.iaload, 1) := by decide +kernel
theorem dX12_blackens_106 : decode cX12_blackens 106 = .ok (.invokevirtual 69, 3) := by decide +kernel
theorem dX12_blackens_109 : decode cX12_blackens 109 = .ok (.iinc 2 1, 3) := by decide +kernel
theorem dX12_blackens_112 : decode cX12_blackens 112 = .ok (.goto (-22), 3) := by decide +kernel
theorem dX12_blackens_115 : decode cX12_blackens 115 = .ok (.return_, 1) := by decide +kernel
theorem dX12_becomeDue_0 : decode cX12_becomeDue 0 = .ok (.iconst 0, 1) := by decide +kernel
theorem dX12_becomeDue_1 : decode cX12_becomeDue 1 = .ok (.istore_n 1, 1) := by decide +kernel
theorem dX12_becomeDue_2 : decode cX12_becomeDue 2 = .ok (.iconst 0, 1) := by decide +kernel
theorem dX12_becomeDue_3 : decode cX12_becomeDue 3 = .ok (.istore_n 2, 1) := by decide +kernel
theorem dX12_becomeDue_4 : decode cX12_becomeDue 4 = .ok (.iload_n 2, 1) := by decide +kernel
theorem dX12_becomeDue_5 : decode cX12_becomeDue 5 = .ok (.bipush 24, 2) := by decide +kernel
theorem dX12_becomeDue_7 : decode cX12_becomeDue 7 = .ok (.if_icmp .ge 94, 3) := by decide +kernel
theorem dX12_becomeDue_10 : decode cX12_becomeDue 10 = .ok (.aload_n 0, 1) := by decide +kernel
theorem dX12_becomeDue_11 : decode cX12_becomeDue 11 = .ok (.getfield 7, 3) := by decide +kernel
theorem dX12_becomeDue_14 : decode cX12_becomeDue 14 = .ok (.bipush 17, 2) := by decide +kernel
theorem dX12_becomeDue_16 : decode cX12_becomeDue 16 = .ok (.iload_n 2, 1) := by decide +kernel
theorem dX12_becomeDue_17 : decode cX12_becomeDue 17 = .ok (.iadd, 1) := by decide +kernel
theorem dX12_becomeDue_18 : decode cX12_becomeDue 18 = .ok (.iaload, 1) := by decide +kernel
theorem dX12_becomeDue_19 : decode cX12_becomeDue 19 = .ok (.ifCond .eq 76, 3) := by decide +kernel
theorem dX12_becomeDue_22 : decode cX12_becomeDue 22 = .ok (.aload_n 0, 1) := by decide +kernel
theorem dX12_becomeDue_23 : decode cX12_becomeDue 23 = .ok (.getfield 7, 3) := by decide +kernel
theorem dX12_becomeDue_26 : decode cX12_becomeDue 26 = .ok (.bipush 41, 2) := by decide +kernel
theorem dX12_becomeDue_28 : decode cX12_becomeDue 28 = .ok (.iload_n 2, 1) := by decide +kernel
theorem dX12_becomeDue_29 : decode cX12_becomeDue 29 = .ok (.iadd, 1) := by decide +kernel
theorem dX12_becomeDue_30 : decode cX12_becomeDue 30 = .ok (.iaload, 1) := by decide +kernel
theorem dX12_becomeDue_31 : decode cX12_becomeDue 31 = .ok (.ifCond .ne 64, 3) := by decide +kernel
theorem dX12_becomeDue_34 : decode cX12_becomeDue 34 = .ok (.aload_n 0, 1) := by decide +kernel
theorem dX12_becomeDue_35 : decode cX12_becomeDue 35 = .ok (.getfield 7, 3) := by decide +kernel
theorem dX12_becomeDue_38 : decode cX12_becomeDue 38 = .ok (.bipush 65, 2) := by decide +kernel
theorem dX12_becomeDue_40 : decode cX12_becomeDue 40 = .ok (.iload_n 2, 1) := by decide +kernel
theorem dX12_becomeDue_41 : decode cX12_becomeDue 41 = .ok (.iadd, 1) := by decide +kernel
theorem dX12_becomeDue_42 : decode cX12_becomeDue 42 = .ok (.iaload, 1) := by decide +kernel
theorem dX12_becomeDue_43 : decode cX12_becomeDue 43 = .ok (.iconst 1, 1) := by decide +kernel
theorem dX12_becomeDue_44 : decode cX12_becomeDue 44 = .ok (.if_icmp .eq 6, 3) := by decide +kernel
theorem dX12_becomeDue_47 : decode cX12_becomeDue 47 = .ok (.goto 48, 3) := by decide +kernel
theorem dX12_becomeDue_50 : decode cX12_becomeDue 50 = .ok (.aload_n 0, 1) := by decide +kernel
theorem dX12_becomeDue_51 : decode cX12_becomeDue 51 = .ok (.getfield 7, 3) := by decide +kernel
theorem dX12_becomeDue_54 : decode cX12_becomeDue 54 = .ok (.bipush 65, 2) := by decide +kernel
theorem dX12_becomeDue_56 : decode cX12_becomeDue 56 = .ok (.iload_n 2, 1) := by decide +kernel
theorem dX12_becomeDue_57 : decode cX12_becomeDue 57 = .ok (.iadd, 1) := by decide +kernel
theorem dX12_becomeDue_58 : decode cX12_becomeDue 58 = .ok (.iconst 2, 1) := by decide +kernel
theorem dX12_becomeDue_59 : decode cX12_becomeDue 59 = .ok (.iastore, 1) := by decide +kernel
theorem dX12_becomeDue_60 : decode cX12_becomeDue 60 = .ok (.aload_n 0, 1) := by decide +kernel
theorem dX12_becomeDue_61 : decode cX12_becomeDue 61 = .ok (.getfield 7, 3) := by decide +kernel
theorem dX12_becomeDue_64 : decode cX12_becomeDue 64 = .ok (.sipush 257, 3) := by decide +kernel
theorem dX12_becomeDue_67 : decode cX12_becomeDue 67 = .ok (.aload_n 0, 1) := by decide +kernel
theorem dX12_becomeDue_68 : decode cX12_becomeDue 68 = .ok (.getfield 7, 3) := by decide +kernel
theorem dX12_becomeDue_71 : decode cX12_becomeDue 71 = .ok (.bipush 9, 2) := by decide +kernel
theorem dX12_becomeDue_73 : decode cX12_becomeDue 73 = .ok (.iaload, 1) := by decide +kernel
theorem dX12_becomeDue_74 : decode cX12_becomeDue 74 = .ok (.iadd, 1) := by decide +kernel
theorem dX12_becomeDue_75 : decode cX12_becomeDue 75 = .ok (.iload_n 2, 1) := by decide +kernel
theorem dX12_becomeDue_76 : decode cX12_becomeDue 76 = .ok (.iastore, 1) := by decide +kernel
theorem dX12_becomeDue_77 : decode cX12_becomeDue 77 = .ok (.aload_n 0, 1) := by decide +kernel
theorem dX12_becomeDue_78 : decode cX12_becomeDue 78 = .ok (.getfield 7, 3) := by decide +kernel
theorem dX12_becomeDue_81 : decode cX12_becomeDue 81 = .ok (.bipush 9, 2) := by decide +kernel
theorem dX12_becomeDue_83 : decode cX12_becomeDue 83 = .ok (.dup2, 1) := by decide +kernel
theorem dX12_becomeDue_84 : decode cX12_becomeDue 84 = .ok (.iaload, 1) := by decide +kernel
theorem dX12_becomeDue_85 : decode cX12_becomeDue 85 = .ok (.iconst 1, 1) := by decide +kernel
theorem dX12_becomeDue_86 : decode cX12_becomeDue 86 = .ok (.iadd, 1) := by decide +kernel
theorem dX12_becomeDue_87 : decode cX12_becomeDue 87 = .ok (.iastore, 1) := by decide +kernel
theorem dX12_becomeDue_88 : decode cX12_becomeDue 88 = .ok (.aload_n 0, 1) := by decide +kernel
theorem dX12_becomeDue_89 : decode cX12_becomeDue 89 = .ok (.iload_n 2, 1) := by decide +kernel
theorem dX12_becomeDue_90 : decode cX12_becomeDue 90 = .ok (.invokevirtual 66, 3) := by decide +kernel
theorem dX12_becomeDue_93 : decode cX12_becomeDue 93 = .ok (.iconst 1, 1) := by decide +kernel
theorem dX12_becomeDue_94 : decode cX12_becomeDue 94 = .ok (.istore_n 1, 1) := by decide +kernel
theorem dX12_becomeDue_95 : decode cX12_becomeDue 95 = .ok (.iinc 2 1, 3) := by decide +kernel
theorem dX12_becomeDue_98 : decode cX12_becomeDue 98 = .ok (.goto (-94), 3) := by decide +kernel
theorem dX12_becomeDue_101 : decode cX12_becomeDue 101 = .ok (.iload_n 1, 1) := by decide +kernel
theorem dX12_becomeDue_102 : decode cX12_becomeDue 102 = .ok (.ireturn, 1) := by decide +kernel
theorem dX12_cutsWeak_0 : decode cX12_cutsWeak 0 = .ok (.iconst 0, 1) := by decide +kernel
theorem dX12_cutsWeak_1 : decode cX12_cutsWeak 1 = .ok (.istore_n 1, 1) := by decide +kernel
theorem dX12_cutsWeak_2 : decode cX12_cutsWeak 2 = .ok (.iload_n 1, 1) := by decide +kernel
theorem dX12_cutsWeak_3 : decode cX12_cutsWeak 3 = .ok (.bipush 24, 2) := by decide +kernel
theorem dX12_cutsWeak_5 : decode cX12_cutsWeak 5 = .ok (.if_icmp .ge 62, 3) := by decide +kernel
theorem dX12_cutsWeak_8 : decode cX12_cutsWeak 8 = .ok (.aload_n 0, 1) := by decide +kernel
theorem dX12_cutsWeak_9 : decode cX12_cutsWeak 9 = .ok (.getfield 7, 3) := by decide +kernel
theorem dX12_cutsWeak_12 : decode cX12_cutsWeak 12 = .ok (.bipush 113, 2) := by decide +kernel
theorem dX12_cutsWeak_14 : decode cX12_cutsWeak 14 = .ok (.iload_n 1, 1) := by decide +kernel
theorem dX12_cutsWeak_15 : decode cX12_cutsWeak 15 = .ok (.iadd, 1) := by decide +kernel
theorem dX12_cutsWeak_16 : decode cX12_cutsWeak 16 = .ok (.iaload, 1) := by decide +kernel
theorem dX12_cutsWeak_17 : decode cX12_cutsWeak 17 = .ok (.istore_n 2, 1) := by decide +kernel
theorem dX12_cutsWeak_18 : decode cX12_cutsWeak 18 = .ok (.iload_n 2, 1) := by decide +kernel
theorem dX12_cutsWeak_19 : decode cX12_cutsWeak 19 = .ok (.bipush (-15), 2) := by decide +kernel
theorem dX12_cutsWeak_21 : decode cX12_cutsWeak 21 = .ok (.if_icmp .eq 40, 3) := by decide +kernel
theorem dX12_cutsWeak_24 : decode cX12_cutsWeak 24 = .ok (.aload_n 0, 1) := by decide +kernel
theorem dX12_cutsWeak_25 : decode cX12_cutsWeak 25 = .ok (.getfield 7, 3) := by decide +kernel
theorem dX12_cutsWeak_28 : decode cX12_cutsWeak 28 = .ok (.bipush 41, 2) := by decide +kernel
theorem dX12_cutsWeak_30 : decode cX12_cutsWeak 30 = .ok (.iload_n 2, 1) := by decide +kernel
theorem dX12_cutsWeak_31 : decode cX12_cutsWeak 31 = .ok (.iadd, 1) := by decide +kernel
theorem dX12_cutsWeak_32 : decode cX12_cutsWeak 32 = .ok (.iaload, 1) := by decide +kernel
theorem dX12_cutsWeak_33 : decode cX12_cutsWeak 33 = .ok (.ifCond .eq 6, 3) := by decide +kernel
theorem dX12_cutsWeak_36 : decode cX12_cutsWeak 36 = .ok (.goto 25, 3) := by decide +kernel
theorem dX12_cutsWeak_39 : decode cX12_cutsWeak 39 = .ok (.aload_n 0, 1) := by decide +kernel
theorem dX12_cutsWeak_40 : decode cX12_cutsWeak 40 = .ok (.getfield 7, 3) := by decide +kernel
theorem dX12_cutsWeak_43 : decode cX12_cutsWeak 43 = .ok (.bipush 113, 2) := by decide +kernel
theorem dX12_cutsWeak_45 : decode cX12_cutsWeak 45 = .ok (.iload_n 1, 1) := by decide +kernel
theorem dX12_cutsWeak_46 : decode cX12_cutsWeak 46 = .ok (.iadd, 1) := by decide +kernel
theorem dX12_cutsWeak_47 : decode cX12_cutsWeak 47 = .ok (.bipush (-15), 2) := by decide +kernel
theorem dX12_cutsWeak_49 : decode cX12_cutsWeak 49 = .ok (.iastore, 1) := by decide +kernel
theorem dX12_cutsWeak_50 : decode cX12_cutsWeak 50 = .ok (.aload_n 0, 1) := by decide +kernel
theorem dX12_cutsWeak_51 : decode cX12_cutsWeak 51 = .ok (.getfield 7, 3) := by decide +kernel
theorem dX12_cutsWeak_54 : decode cX12_cutsWeak 54 = .ok (.bipush 6, 2) := by decide +kernel
theorem dX12_cutsWeak_56 : decode cX12_cutsWeak 56 = .ok (.dup2, 1) := by decide +kernel
theorem dX12_cutsWeak_57 : decode cX12_cutsWeak 57 = .ok (.iaload, 1) := by decide +kernel
theorem dX12_cutsWeak_58 : decode cX12_cutsWeak 58 = .ok (.iconst 1, 1) := by decide +kernel
theorem dX12_cutsWeak_59 : decode cX12_cutsWeak 59 = .ok (.iadd, 1) := by decide +kernel
theorem dX12_cutsWeak_60 : decode cX12_cutsWeak 60 = .ok (.iastore, 1) := by decide +kernel
theorem dX12_cutsWeak_61 : decode cX12_cutsWeak 61 = .ok (.iinc 1 1, 3) := by decide +kernel
theorem dX12_cutsWeak_64 : decode cX12_cutsWeak 64 = .ok (.goto (-62), 3) := by decide +kernel
theorem dX12_cutsWeak_67 : decode cX12_cutsWeak 67 = .ok (.aload_n 0, 1) := by decide +kernel
theorem dX12_cutsWeak_68 : decode cX12_cutsWeak 68 = .ok (.getfield 7, 3) := by decide +kernel
theorem dX12_cutsWeak_71 : decode cX12_cutsWeak 71 = .ok (.iconst 0, 1) := by decide +kernel
theorem dX12_cutsWeak_72 : decode cX12_cutsWeak 72 = .ok (.iconst 2, 1) := by decide +kernel
theorem dX12_cutsWeak_73 : decode cX12_cutsWeak 73 = .ok (.iastore, 1) := by decide +kernel
theorem dX12_cutsWeak_74 : decode cX12_cutsWeak 74 = .ok (.aload_n 0, 1) := by decide +kernel
theorem dX12_cutsWeak_75 : decode cX12_cutsWeak 75 = .ok (.getfield 7, 3) := by decide +kernel
theorem dX12_cutsWeak_78 : decode cX12_cutsWeak 78 = .ok (.iconst 1, 1) := by decide +kernel
theorem dX12_cutsWeak_79 : decode cX12_cutsWeak 79 = .ok (.iconst 0, 1) := by decide +kernel
theorem dX12_cutsWeak_80 : decode cX12_cutsWeak 80 = .ok (.iastore, 1) := by decide +kernel
theorem dX12_cutsWeak_81 : decode cX12_cutsWeak 81 = .ok (.return_, 1) := by decide +kernel
theorem dX12_frees_0 : decode cX12_frees 0 = .ok (.aload_n 0, 1) := by decide +kernel
theorem dX12_frees_1 : decode cX12_frees 1 = .ok (.iload_n 1, 1) := by decide +kernel
theorem dX12_frees_2 : decode cX12_frees 2 = .ok (.invokevirtual 34, 3) := by decide +kernel
theorem dX12_frees_5 : decode cX12_frees 5 = .ok (.iconst 0, 1) := by decide +kernel
theorem dX12_frees_6 : decode cX12_frees 6 = .ok (.istore_n 2, 1) := by decide +kernel
theorem dX12_frees_7 : decode cX12_frees 7 = .ok (.iload_n 2, 1) := by decide +kernel
theorem dX12_frees_8 : decode cX12_frees 8 = .ok (.bipush 24, 2) := by decide +kernel
theorem dX12_frees_10 : decode cX12_frees 10 = .ok (.if_icmp .ge 72, 3) := by decide +kernel
theorem dX12_frees_13 : decode cX12_frees 13 = .ok (.aload_n 0, 1) := by decide +kernel
theorem dX12_frees_14 : decode cX12_frees 14 = .ok (.getfield 7, 3) := by decide +kernel
theorem dX12_frees_17 : decode cX12_frees 17 = .ok (.bipush 113, 2) := by decide +kernel
theorem dX12_frees_19 : decode cX12_frees 19 = .ok (.iload_n 2, 1) := by decide +kernel
theorem dX12_frees_20 : decode cX12_frees 20 = .ok (.iadd, 1) := by decide +kernel
theorem dX12_frees_21 : decode cX12_frees 21 = .ok (.iaload, 1) := by decide +kernel
theorem dX12_frees_22 : decode cX12_frees 22 = .ok (.iload_n 1, 1) := by decide +kernel
theorem dX12_frees_23 : decode cX12_frees 23 = .ok (.if_icmp .ne 14, 3) := by decide +kernel
theorem dX12_frees_26 : decode cX12_frees 26 = .ok (.aload_n 0, 1) := by decide +kernel
theorem dX12_frees_27 : decode cX12_frees 27 = .ok (.getfield 7, 3) := by decide +kernel
theorem dX12_frees_30 : decode cX12_frees 30 = .ok (.bipush 113, 2) := by decide +kernel
theorem dX12_frees_32 : decode cX12_frees 32 = .ok (.iload_n 2, 1) := by decide +kernel
theorem dX12_frees_33 : decode cX12_frees 33 = .ok (.iadd, 1) := by decide +kernel
theorem dX12_frees_34 : decode cX12_frees 34 = .ok (.bipush (-15), 2) := by decide +kernel
theorem dX12_frees_36 : decode cX12_frees 36 = .ok (.iastore, 1) := by decide +kernel
theorem dX12_frees_37 : decode cX12_frees 37 = .ok (.iconst 0, 1) := by decide +kernel
theorem dX12_frees_38 : decode cX12_frees 38 = .ok (.istore_n 3, 1) := by decide +kernel
theorem dX12_frees_39 : decode cX12_frees 39 = .ok (.iload_n 3, 1) := by decide +kernel
theorem dX12_frees_40 : decode cX12_frees 40 = .ok (.iconst 4, 1) := by decide +kernel
theorem dX12_frees_41 : decode cX12_frees 41 = .ok (.if_icmp .ge 35, 3) := by decide +kernel
theorem dX12_frees_44 : decode cX12_frees 44 = .ok (.aload_n 0, 1) := by decide +kernel
theorem dX12_frees_45 : decode cX12_frees 45 = .ok (.getfield 7, 3) := by decide +kernel
theorem dX12_frees_48 : decode cX12_frees 48 = .ok (.iload_n 2, 1) := by decide +kernel
theorem dX12_frees_49 : decode cX12_frees 49 = .ok (.iload_n 3, 1) := by decide +kernel
theorem dX12_frees_50 : decode cX12_frees 50 = .ok (.invokestatic 62, 3) := by decide +kernel
theorem dX12_frees_53 : decode cX12_frees 53 = .ok (.iaload, 1) := by decide +kernel
theorem dX12_frees_54 : decode cX12_frees 54 = .ok (.iload_n 1, 1) := by decide +kernel
theorem dX12_frees_55 : decode cX12_frees 55 = .ok (.if_icmp .ne 15, 3) := by decide +kernel
theorem dX12_frees_58 : decode cX12_frees 58 = .ok (.aload_n 0, 1) := by decide +kernel
theorem dX12_frees_59 : decode cX12_frees 59 = .ok (.getfield 7, 3) := by decide +kernel
theorem dX12_frees_62 : decode cX12_frees 62 = .ok (.iload_n 2, 1) := by decide +kernel
theorem dX12_frees_63 : decode cX12_frees 63 = .ok (.iload_n 3, 1) := by decide +kernel
theorem dX12_frees_64 : decode cX12_frees 64 = .ok (.invokestatic 62, 3) := by decide +kernel
theorem dX12_frees_67 : decode cX12_frees 67 = .ok (.bipush (-15), 2) := by decide +kernel
theorem dX12_frees_69 : decode cX12_frees 69 = .ok (.iastore, 1) := by decide +kernel
theorem dX12_frees_70 : decode cX12_frees 70 = .ok (.iinc 3 1, 3) := by decide +kernel
theorem dX12_frees_73 : decode cX12_frees 73 = .ok (.goto (-34), 3) := by decide +kernel
theorem dX12_frees_76 : decode cX12_frees 76 = .ok (.iinc 2 1, 3) := by decide +kernel
theorem dX12_frees_79 : decode cX12_frees 79 = .ok (.goto (-72), 3) := by decide +kernel
theorem dX12_frees_82 : decode cX12_frees 82 = .ok (.bipush 11, 2) := by decide +kernel
theorem dX12_frees_84 : decode cX12_frees 84 = .ok (.istore_n 2, 1) := by decide +kernel
theorem dX12_frees_85 : decode cX12_frees 85 = .ok (.iload_n 2, 1) := by decide +kernel
theorem dX12_frees_86 : decode cX12_frees 86 = .ok (.ifCond .le 31, 3) := by decide +kernel
theorem dX12_frees_89 : decode cX12_frees 89 = .ok (.aload_n 0, 1) := by decide +kernel
theorem dX12_frees_90 : decode cX12_frees 90 = .ok (.getfield 7, 3) := by decide +kernel
theorem dX12_frees_93 : decode cX12_frees 93 = .ok (.sipush 281, 3) := by decide +kernel
theorem dX12_frees_96 : decode cX12_frees 96 = .ok (.iload_n 2, 1) := by decide +kernel
theorem dX12_frees_97 : decode cX12_frees 97 = .ok (.iadd, 1) := by decide +kernel
theorem dX12_frees_98 : decode cX12_frees 98 = .ok (.aload_n 0, 1) := by decide +kernel
theorem dX12_frees_99 : decode cX12_frees 99 = .ok (.getfield 7, 3) := by decide +kernel
theorem dX12_frees_102 : decode cX12_frees 102 = .ok (.sipush 281, 3) := by decide +kernel
theorem dX12_frees_105 : decode cX12_frees 105 = .ok (.iload_n 2, 1) := by decide +kernel
theorem dX12_frees_106 : decode cX12_frees 106 = .ok (.iadd, 1) := by decide +kernel
theorem dX12_frees_107 : decode cX12_frees 107 = .ok (.iconst 1, 1) := by decide +kernel
theorem dX12_frees_108 : decode cX12_frees 108 = .ok (.isub, 1) := by decide +kernel
theorem dX12_frees_109 : decode cX12_frees 109 = .ok (.iaload, 1) := by decide +kernel
theorem dX12_frees_110 : decode cX12_frees 110 = .ok (.iastore, 1) := by decide +kernel
theorem dX12_frees_111 : decode cX12_frees 111 = .ok (.iinc 2 (-1), 3) := by decide +kernel
theorem dX12_frees_114 : decode cX12_frees 114 = .ok (.goto (-29), 3) := by decide +kernel
theorem dX12_frees_117 : decode cX12_frees 117 = .ok (.aload_n 0, 1) := by decide +kernel
theorem dX12_frees_118 : decode cX12_frees 118 = .ok (.getfield 7, 3) := by decide +kernel
theorem dX12_frees_121 : decode cX12_frees 121 = .ok (.sipush 281, 3) := by decide +kernel
theorem dX12_frees_124 : decode cX12_frees 124 = .ok (.iload_n 1, 1) := by decide +kernel
theorem dX12_frees_125 : decode cX12_frees 125 = .ok (.iastore, 1) := by decide +kernel
theorem dX12_frees_126 : decode cX12_frees 126 = .ok (.aload_n 0, 1) := by decide +kernel
theorem dX12_frees_127 : decode cX12_frees 127 = .ok (.getfield 7, 3) := by decide +kernel
theorem dX12_frees_130 : decode cX12_frees 130 = .ok (.bipush 10, 2) := by decide +kernel
theorem dX12_frees_132 : decode cX12_frees 132 = .ok (.dup2, 1) := by decide +kernel
theorem dX12_frees_133 : decode cX12_frees 133 = .ok (.iaload, 1) := by decide +kernel
theorem dX12_frees_134 : decode cX12_frees 134 = .ok (.aload_n 0, 1) := by decide +kernel
theorem dX12_frees_135 : decode cX12_frees 135 = .ok (.getfield 7, 3) := by decide +kernel
theorem dX12_frees_138 : decode cX12_frees 138 = .ok (.bipush 10, 2) := by decide +kernel
theorem dX12_frees_140 : decode cX12_frees 140 = .ok (.iaload, 1) := by decide +kernel
theorem dX12_frees_141 : decode cX12_frees 141 = .ok (.bipush 12, 2) := by decide +kernel
theorem dX12_frees_143 : decode cX12_frees 143 = .ok (.if_icmp .ge 7, 3) := by decide +kernel
theorem dX12_frees_146 : decode cX12_frees 146 = .ok (.iconst 1, 1) := by decide +kernel
theorem dX12_frees_147 : decode cX12_frees 147 = .ok (.goto 4, 3) := by decide +kernel
theorem dX12_frees_150 : decode cX12_frees 150 = .ok (.iconst 0, 1) := by decide +kernel
theorem dX12_frees_151 : decode cX12_frees 151 = .ok (.iadd, 1) := by decide +kernel
theorem dX12_frees_152 : decode cX12_frees 152 = .ok (.iastore, 1) := by decide +kernel
theorem dX12_frees_153 : decode cX12_frees 153 = .ok (.aload_n 0, 1) := by decide +kernel
theorem dX12_frees_154 : decode cX12_frees 154 = .ok (.getfield 7, 3) := by decide +kernel
theorem dX12_frees_157 : decode cX12_frees 157 = .ok (.iconst 4, 1) := by decide +kernel
theorem dX12_frees_158 : decode cX12_frees 158 = .ok (.dup2, 1) := by decide +kernel
theorem dX12_frees_159 : decode cX12_frees 159 = .ok (.iaload, 1) := by decide +kernel
theorem dX12_frees_160 : decode cX12_frees 160 = .ok (.iconst 1, 1) := by decide +kernel
theorem dX12_frees_161 : decode cX12_frees 161 = .ok (.iadd, 1) := by decide +kernel
theorem dX12_frees_162 : decode cX12_frees 162 = .ok (.iastore, 1) := by decide +kernel
theorem dX12_frees_163 : decode cX12_frees 163 = .ok (.return_, 1) := by decide +kernel
def f_X12_in (μ : mu_T) (a0 : Int) (a1 : Int) (a2 : Int) : Option Int :=
  lt_ a0 a1
      (some 0)
      (lt_ a2 a0
      (some 0)
      (some 1))
set_option maxHeartbeats 4000000 in
set_option maxRecDepth 100000 in
theorem c_X12_in {G : gp_} {ad : Nat → Nat} (μ : mu_T) (a0 : Int) (a1 : Int) (a2 : Int) (a : Int) (h : f_X12_in μ a0 a1 a2 = some a) : mi_ yX12_in cX12_in 3 (some .boolean) ({ frames := 0, cells := 0, slots := 0, locals := 0 } : Room) G 9 ad (ceM G ad) [.int (iI a0), .int (iI a1), .int (iI a2)] μ a μ := by
  refine mi_in (own := "UrnHeapModel") (lv := [(0, .int (iI a0)), (1, .int (iI a1)), (2, .int (iI a2))]) (by decide) rfl rfl (Nat.le_of_ble_eq_true rfl) (fun X C E => ?_)
  unfold f_X12_in at h
  refine xx_iload_n C 1 rfl 0 dX12_in_0 rfl rfl ?_
  refine xx_iload_n C 2 rfl 1 dX12_in_1 rfl rfl ?_
  refine xx_icmp_lt (tgt := 14) C 5 rfl dX12_in_2 (by decide) h (fun h => ?_) (fun h => ?_)
  · refine xx_iconst C 15 rfl dX12_in_14 ?_
    exact xx_zretl C E rfl rfl ⟨Nat.le_of_ble_eq_true rfl, Nat.le_of_ble_eq_true rfl⟩ dX12_in_15 h
  · refine xx_iload_n C 6 rfl 0 dX12_in_5 rfl rfl ?_
    refine xx_iload_n C 7 rfl 2 dX12_in_6 rfl rfl ?_
    refine xx_icmp_gt (tgt := 14) C 10 rfl dX12_in_7 (by decide) h (fun h => ?_) (fun h => ?_)
    · refine xx_iconst C 15 rfl dX12_in_14 ?_
      exact xx_zretl C E rfl rfl ⟨Nat.le_of_ble_eq_true rfl, Nat.le_of_ble_eq_true rfl⟩ dX12_in_15 h
    · refine xx_iconst C 11 rfl dX12_in_10 ?_
      refine xx_goto C 15 dX12_in_11 (by decide) ?_
      exact xx_zretl C E rfl rfl ⟨Nat.le_of_ble_eq_true rfl, Nat.le_of_ble_eq_true rfl⟩ dX12_in_15 h

def f_X12_remembers_L2  : Nat → Int → mu_T → Option mu_T
  | 0, _, _ => none
  | fu2 + 1, x1_2, μ2 => lt_ x1_2 293
      (rd_ μ2 1 293 x1_2 (fun v19 => wr_ μ2 2 293 x1_2 v19 (fun μ20 => nm_ (x1_2 + 1) (fun n21 => (f_X12_remembers_L2 fu2) n21 μ20))))
      (some μ2)
def f_X12_remembers (μ : mu_T)  : Option mu_T :=
  f_X12_remembers_L2 20000 0 μ
set_option maxHeartbeats 4000000 in
set_option maxRecDepth 100000 in
theorem c_X12_remembers {G : gp_} {ad : Nat → Nat} (μ : mu_T)  (μr : mu_T) (h : f_X12_remembers μ  = some μr) : mv_ yX12_remembers cX12_remembers 2 ({ frames := 0, cells := 0, slots := 0, locals := 0 } : Room) G 9 ad (ceM G ad) [.ref (ad 0)] μ μr := by
  refine mv_in (own := "UrnHeapModel") (lv := [(0, .ref (ad 0))]) (by decide) rfl rfl (Nat.le_of_ble_eq_true rfl) (fun X C E => ?_)
  unfold f_X12_remembers at h
  refine xx_iconst C 1 rfl dX12_remembers_0 ?_
  refine xx_istore_n (lv1 := [(1, .int (iI 0)), (0, .ref (ad 0))]) C 2 rfl (by decide) dX12_remembers_1 rfl rfl ?_
  have L2 : ∀ (fu2 : Nat) (x1_2 : Int) (μ2 : mu_T), f_X12_remembers_L2 fu2 x1_2 μ2 = some μr → wx_ G X 9 ad (ceM G ad) μ2 0 0 2 [(0, .ref (ad 0)), (1, .int (iI x1_2))] [] := by
    intro fu2
    induction fu2 with
    | zero => intro x1_2 μ2 h; exact nn_ h
    | succ fu2 K2 =>
      intro x1_2 μ2 h
      rw [f_X12_remembers_L2] at h
      generalize f_X12_remembers_L2 fu2 = R2 at K2 h
      refine xx_iload_n C 3 rfl 1 dX12_remembers_2 rfl rfl ?_
      refine xx_sipush C 6 rfl dX12_remembers_3 (by decide) ?_
      refine xx_icmp_ge (tgt := 27) C 9 rfl dX12_remembers_6 (by decide) h (fun h => ?_) (fun h => ?_)
      · exact xx_vret C E rfl ⟨Nat.le_of_ble_eq_true rfl, Nat.le_of_ble_eq_true rfl⟩ dX12_remembers_27 h
      · refine xx_aload_n C 10 rfl 0 dX12_remembers_9 rfl rfl ?_
        refine xx_getr (fi := 1) C 13 rfl (by decide) (ceM_0 _ _ _) rfl in_X12 (by decide) rfl rfl w_1172 dX12_remembers_10 ?_
        refine xx_iload_n C 14 rfl 1 dX12_remembers_13 rfl rfl ?_
        refine xx_aload_n C 15 rfl 0 dX12_remembers_14 rfl rfl ?_
        refine xx_getr (fi := 0) C 18 rfl (by decide) (ceM_0 _ _ _) rfl in_X12 (by decide) rfl rfl w_1171 dX12_remembers_15 ?_
        refine xx_iload_n C 19 rfl 1 dX12_remembers_18 rfl rfl ?_
        refine xx_iaload C 20 rfl (by decide) (fun _ => rfl) (by decide) dX12_remembers_19 h (fun v19 h => ?_)
        refine xx_iastore C 21 rfl (by decide) (fun _ => rfl) (by decide) dX12_remembers_20 h (fun μ20 h => ?_)
        refine xx_iincn C 24 rfl 1 (by decide) dX12_remembers_21 rfl h (fun n21 h => ?_)
        refine xx_lv (lv1 := [(1, .int (iI n21)), (0, .ref (ad 0))]) rfl ?_
        refine xx_goto C 2 dX12_remembers_24 (by decide) ?_
        refine xx_sub [1, 0] rfl ?_
        exact K2 n21 μ20 h
  refine xx_sub [1, 0] rfl ?_
  exact L2 _ _ _ h

def f_X12_changed_L55 (a1 : Int) : Nat → Int → mu_T → Option (Int × mu_T)
  | 0, _, _ => none
  | fu55 + 1, x2_55, μ55 => lt_ x2_55 293
      (nm_ (μ55 0 4) (fun v70 => rd_ μ55 2 293 x2_55 (fun v83 => wr_ μ55 4 2344 ((293 * (v70 - 1)) + x2_55) v83 (fun μ84 => nm_ (x2_55 + 1) (fun n85 => (f_X12_changed_L55 a1 fu55) n85 μ84)))))
      (some (a1, μ55))
def f_X12_changed_L11 (J40 : mu_T → Option (Int × mu_T)) : Nat → Int → mu_T → Option (Int × mu_T)
  | 0, _, _ => none
  | fu11 + 1, x2_11, μ11 => lt_ x2_11 2051
      (rd_ μ11 4 2344 (x2_11 + 293) (fun v32 => wr_ μ11 4 2344 x2_11 v32 (fun μ33 => nm_ (x2_11 + 1) (fun n34 => (f_X12_changed_L11 J40 fu11) n34 μ33))))
      (J40 μ11)
def f_X12_changed (μ : mu_T) (a1 : Int) : Option (Int × mu_T) :=
  nm_ (μ 0 4) (fun v1 => jn_ (φ := mu_T → Option (Int × mu_T)) (fun μ53 => f_X12_changed_L55 a1 20000 0 μ53)
      (fun J53 => eq_ v1 8
      (jn_ (φ := mu_T → Option (Int × mu_T)) (fun μ40 => J53 μ40)
      (fun J40 => f_X12_changed_L11 J40 20000 0 μ))
      (nm_ (μ 0 4) (fun v45 => wf_ μ 0 4 (v45 + 1) (fun μ50 => J53 μ50)))))
set_option maxHeartbeats 4000000 in
set_option maxRecDepth 100000 in
theorem c_X12_changed {G : gp_} {ad : Nat → Nat} (μ : mu_T) (a1 : Int) (a : Int) (μr : mu_T) (h : f_X12_changed μ a1 = some (a, μr)) : mi_ yX12_changed cX12_changed 3 (some .int) ({ frames := 0, cells := 0, slots := 0, locals := 0 } : Room) G 9 ad (ceM G ad) [.ref (ad 0), .int (iI a1)] μ a μr := by
  refine mi_in (own := "UrnHeapModel") (lv := [(0, .ref (ad 0)), (1, .int (iI a1))]) (by decide) rfl rfl (Nat.le_of_ble_eq_true rfl) (fun X C E => ?_)
  unfold f_X12_changed at h
  refine xx_aload_n C 1 rfl 0 dX12_changed_0 rfl rfl ?_
  refine xx_geti (fi := 4) (j := 4) C 4 rfl (by decide) (ceM_0 _ _ _) rfl in_X12 (by decide) rfl rfl w_1175 dX12_changed_1 h (fun v1 h => ?_)
  refine xx_bipush C 6 rfl dX12_changed_4 (by decide) ?_
  refine jn_r (fun J => ∀ (μ53 : mu_T), J μ53 = some (a, μr) → wx_ G X 9 ad (ceM G ad) μ53 0 0 53 [(0, .ref (ad 0)), (1, .int (iI a1))] []) h (fun μ53 h => ?_) (fun J53 K53 h => ?_)
  · refine xx_iconst C 54 rfl dX12_changed_53 ?_
    refine xx_istore_n (lv1 := [(2, .int (iI 0)), (0, .ref (ad 0)), (1, .int (iI a1))]) C 55 rfl (by decide) dX12_changed_54 rfl rfl ?_
    have L55 : ∀ (fu55 : Nat) (x2_55 : Int) (μ55 : mu_T), f_X12_changed_L55 a1 fu55 x2_55 μ55 = some (a, μr) → wx_ G X 9 ad (ceM G ad) μ55 0 0 55 [(0, .ref (ad 0)), (1, .int (iI a1)), (2, .int (iI x2_55))] [] := by
      intro fu55
      induction fu55 with
      | zero => intro x2_55 μ55 h; exact nn_ h
      | succ fu55 K55 =>
        intro x2_55 μ55 h
        rw [f_X12_changed_L55] at h
        generalize f_X12_changed_L55 a1 fu55 = R55 at K55 h
        refine xx_iload_n C 56 rfl 2 dX12_changed_55 rfl rfl ?_
        refine xx_sipush C 59 rfl dX12_changed_56 (by decide) ?_
        refine xx_icmp_ge (tgt := 91) C 62 rfl dX12_changed_59 (by decide) h (fun h => ?_) (fun h => ?_)
        · refine xx_iload_n C 92 rfl 1 dX12_changed_91 rfl rfl ?_
          exact xx_iret C E rfl ⟨Nat.le_of_ble_eq_true rfl, Nat.le_of_ble_eq_true rfl⟩ dX12_changed_92 h
        · refine xx_aload_n C 63 rfl 0 dX12_changed_62 rfl rfl ?_
          refine xx_getr (fi := 3) C 66 rfl (by decide) (ceM_0 _ _ _) rfl in_X12 (by decide) rfl rfl w_1174 dX12_changed_63 ?_
          refine xx_sipush C 69 rfl dX12_changed_66 (by decide) ?_
          refine xx_aload_n C 70 rfl 0 dX12_changed_69 rfl rfl ?_
          refine xx_geti (fi := 4) (j := 4) C 73 rfl (by decide) (ceM_0 _ _ _) rfl in_X12 (by decide) rfl rfl w_1175 dX12_changed_70 h (fun v70 h => ?_)
          refine xx_iconst C 74 rfl dX12_changed_73 ?_
          refine xx_isub C 75 rfl dX12_changed_74 ?_
          refine xx_imul C 76 rfl dX12_changed_75 ?_
          refine xx_iload_n C 77 rfl 2 dX12_changed_76 rfl rfl ?_
          refine xx_iadd C 78 rfl dX12_changed_77 ?_
          refine xx_aload_n C 79 rfl 0 dX12_changed_78 rfl rfl ?_
          refine xx_getr (fi := 1) C 82 rfl (by decide) (ceM_0 _ _ _) rfl in_X12 (by decide) rfl rfl w_1172 dX12_changed_79 ?_
          refine xx_iload_n C 83 rfl 2 dX12_changed_82 rfl rfl ?_
          refine xx_iaload C 84 rfl (by decide) (fun _ => rfl) (by decide) dX12_changed_83 h (fun v83 h => ?_)
          refine xx_iastore C 85 rfl (by decide) (fun _ => rfl) (by decide) dX12_changed_84 h (fun μ84 h => ?_)
          refine xx_iincn C 88 rfl 2 (by decide) dX12_changed_85 rfl h (fun n85 h => ?_)
          refine xx_lv (lv1 := [(2, .int (iI n85)), (0, .ref (ad 0)), (1, .int (iI a1))]) rfl ?_
          refine xx_goto C 55 dX12_changed_88 (by decide) ?_
          refine xx_sub [1, 2, 0] rfl ?_
          exact K55 n85 μ84 h
    refine xx_sub [1, 2, 0] rfl ?_
    exact L55 _ _ _ h
  · refine xx_icmp_ne (tgt := 43) C 9 rfl dX12_changed_6 (by decide) h (fun h => ?_) (fun h => ?_)
    · refine xx_aload_n C 44 rfl 0 dX12_changed_43 rfl rfl ?_
      refine xx_dup C 45 rfl dX12_changed_44 rfl ?_
      refine xx_geti (fi := 4) (j := 4) C 48 rfl (by decide) (ceM_0 _ _ _) rfl in_X12 (by decide) rfl rfl w_1175 dX12_changed_45 h (fun v45 h => ?_)
      refine xx_iconst C 49 rfl dX12_changed_48 ?_
      refine xx_iadd C 50 rfl dX12_changed_49 ?_
      refine xx_puti (fi := 4) (j := 4) C 53 rfl (by decide) (ceM_0 _ _ _) (puM_4 _ _ _ _) rfl in_X12 tyX12 tyX12_ok nmX12 (by decide) (Nat.le_of_ble_eq_true rfl) ⟨rfl, rfl, rfl⟩ w_1175 dX12_changed_50 h (fun μ50 h => ?_)
      exact K53 μ50 h
    · refine xx_iconst C 10 rfl dX12_changed_9 ?_
      refine xx_istore_n (lv1 := [(2, .int (iI 0)), (0, .ref (ad 0)), (1, .int (iI a1))]) C 11 rfl (by decide) dX12_changed_10 rfl rfl ?_
      refine jn_r (fun J => ∀ (μ40 : mu_T), J μ40 = some (a, μr) → wx_ G X 9 ad (ceM G ad) μ40 0 0 40 [(0, .ref (ad 0)), (1, .int (iI a1))] []) h (fun μ40 h => ?_) (fun J40 K40 h => ?_)
      · refine xx_goto C 53 dX12_changed_40 (by decide) ?_
        exact K53 μ40 h
      · have L11 : ∀ (fu11 : Nat) (x2_11 : Int) (μ11 : mu_T), f_X12_changed_L11 J40 fu11 x2_11 μ11 = some (a, μr) → wx_ G X 9 ad (ceM G ad) μ11 0 0 11 [(0, .ref (ad 0)), (1, .int (iI a1)), (2, .int (iI x2_11))] [] := by
          intro fu11
          induction fu11 with
          | zero => intro x2_11 μ11 h; exact nn_ h
          | succ fu11 K11 =>
            intro x2_11 μ11 h
            rw [f_X12_changed_L11] at h
            generalize f_X12_changed_L11 J40 fu11 = R11 at K11 h
            refine xx_iload_n C 12 rfl 2 dX12_changed_11 rfl rfl ?_
            refine xx_sipush C 15 rfl dX12_changed_12 (by decide) ?_
            refine xx_icmp_ge (tgt := 40) C 18 rfl dX12_changed_15 (by decide) h (fun h => ?_) (fun h => ?_)
            · refine xx_sub [0, 1] rfl ?_
              exact K40 μ11 h
            · refine xx_aload_n C 19 rfl 0 dX12_changed_18 rfl rfl ?_
              refine xx_getr (fi := 3) C 22 rfl (by decide) (ceM_0 _ _ _) rfl in_X12 (by decide) rfl rfl w_1174 dX12_changed_19 ?_
              refine xx_iload_n C 23 rfl 2 dX12_changed_22 rfl rfl ?_
              refine xx_aload_n C 24 rfl 0 dX12_changed_23 rfl rfl ?_
              refine xx_getr (fi := 3) C 27 rfl (by decide) (ceM_0 _ _ _) rfl in_X12 (by decide) rfl rfl w_1174 dX12_changed_24 ?_
              refine xx_iload_n C 28 rfl 2 dX12_changed_27 rfl rfl ?_
              refine xx_sipush C 31 rfl dX12_changed_28 (by decide) ?_
              refine xx_iadd C 32 rfl dX12_changed_31 ?_
              refine xx_iaload C 33 rfl (by decide) (fun _ => rfl) (by decide) dX12_changed_32 h (fun v32 h => ?_)
              refine xx_iastore C 34 rfl (by decide) (fun _ => rfl) (by decide) dX12_changed_33 h (fun μ33 h => ?_)
              refine xx_iincn C 37 rfl 2 (by decide) dX12_changed_34 rfl h (fun n34 h => ?_)
              refine xx_lv (lv1 := [(2, .int (iI n34)), (0, .ref (ad 0)), (1, .int (iI a1))]) rfl ?_
              refine xx_goto C 11 dX12_changed_37 (by decide) ?_
              refine xx_sub [1, 2, 0] rfl ?_
              exact K11 n34 μ33 h
        refine xx_sub [1, 2, 0] rfl ?_
        exact L11 _ _ _ h

def f_X12_refused (μ : mu_T) (a1 : Int) (a2 : Int) : Option (Int × mu_T) :=
  wf_ μ 0 14 a2 (fun μ2 => some (a1, μ2))
set_option maxHeartbeats 4000000 in
set_option maxRecDepth 100000 in
theorem c_X12_refused {G : gp_} {ad : Nat → Nat} (μ : mu_T) (a1 : Int) (a2 : Int) (a : Int) (μr : mu_T) (h : f_X12_refused μ a1 a2 = some (a, μr)) : mi_ yX12_refused cX12_refused 3 (some .int) ({ frames := 0, cells := 0, slots := 0, locals := 0 } : Room) G 9 ad (ceM G ad) [.ref (ad 0), .int (iI a1), .int (iI a2)] μ a μr := by
  refine mi_in (own := "UrnHeapModel") (lv := [(0, .ref (ad 0)), (1, .int (iI a1)), (2, .int (iI a2))]) (by decide) rfl rfl (Nat.le_of_ble_eq_true rfl) (fun X C E => ?_)
  unfold f_X12_refused at h
  refine xx_aload_n C 1 rfl 0 dX12_refused_0 rfl rfl ?_
  refine xx_iload_n C 2 rfl 2 dX12_refused_1 rfl rfl ?_
  refine xx_puti (fi := 14) (j := 14) C 5 rfl (by decide) (ceM_0 _ _ _) (puM_14 _ _ _ _) rfl in_X12 tyX12 tyX12_ok nmX12 (by decide) (Nat.le_of_ble_eq_true rfl) ⟨rfl, rfl, rfl⟩ w_1185 dX12_refused_2 h (fun μ2 h => ?_)
  refine xx_iload_n C 6 rfl 1 dX12_refused_5 rfl rfl ?_
  exact xx_iret C E rfl ⟨Nat.le_of_ble_eq_true rfl, Nat.le_of_ble_eq_true rfl⟩ dX12_refused_6 h

def f_X12_done (μ : mu_T) (a1 : Int) : Option (Int × mu_T) :=
  wf_ μ 0 15 a1 (fun μ2 => some (0, μ2))
set_option maxHeartbeats 4000000 in
set_option maxRecDepth 100000 in
theorem c_X12_done {G : gp_} {ad : Nat → Nat} (μ : mu_T) (a1 : Int) (a : Int) (μr : mu_T) (h : f_X12_done μ a1 = some (a, μr)) : mi_ yX12_done cX12_done 2 (some .int) ({ frames := 0, cells := 0, slots := 0, locals := 0 } : Room) G 9 ad (ceM G ad) [.ref (ad 0), .int (iI a1)] μ a μr := by
  refine mi_in (own := "UrnHeapModel") (lv := [(0, .ref (ad 0)), (1, .int (iI a1))]) (by decide) rfl rfl (Nat.le_of_ble_eq_true rfl) (fun X C E => ?_)
  unfold f_X12_done at h
  refine xx_aload_n C 1 rfl 0 dX12_done_0 rfl rfl ?_
  refine xx_iload_n C 2 rfl 1 dX12_done_1 rfl rfl ?_
  refine xx_puti (fi := 15) (j := 15) C 5 rfl (by decide) (ceM_0 _ _ _) (puM_15 _ _ _ _) rfl in_X12 tyX12 tyX12_ok nmX12 (by decide) (Nat.le_of_ble_eq_true rfl) ⟨rfl, rfl, rfl⟩ w_1186 dX12_done_2 h (fun μ2 h => ?_)
  refine xx_iconst C 6 rfl dX12_done_5 ?_
  exact xx_iret C E rfl ⟨Nat.le_of_ble_eq_true rfl, Nat.le_of_ble_eq_true rfl⟩ dX12_done_6 h

def f_X12_ends (μ : mu_T) (a1 : Int) : Option (Int × mu_T) :=
  eq_ a1 0
      (nm_ (μ 0 15) (fun v6 => bp_ (f_X12_changed μ v6) (fun v9 μ9 => some (v9, μ9))))
      (lt_ a1 0
      (some (a1, μ))
      (wf_ μ 0 12 a1 (fun μ21 => nm_ (μ21 0 14) (fun v26 => wf_ μ21 0 13 v26 (fun μ29 => some ((-14), μ29))))))
set_option maxHeartbeats 4000000 in
set_option maxRecDepth 100000 in
theorem c_X12_ends {G : gp_} {ad : Nat → Nat} (μ : mu_T) (a1 : Int) (a : Int) (μr : mu_T) (h : f_X12_ends μ a1 = some (a, μr)) : mi_ yX12_ends cX12_ends 2 (some .int) ({ frames := 1, cells := 0, slots := 0, locals := 22 } : Room) G 9 ad (ceM G ad) [.ref (ad 0), .int (iI a1)] μ a μr := by
  refine mi_in (own := "UrnHeapModel") (lv := [(0, .ref (ad 0)), (1, .int (iI a1))]) (by decide) rfl rfl (Nat.le_of_ble_eq_true rfl) (fun X C E => ?_)
  unfold f_X12_ends at h
  refine xx_iload_n C 1 rfl 1 dX12_ends_0 rfl rfl ?_
  refine xx_if_ne (tgt := 13) C 4 rfl dX12_ends_1 (by decide) h (fun h => ?_) (fun h => ?_)
  · refine xx_iload_n C 14 rfl 1 dX12_ends_13 rfl rfl ?_
    refine xx_if_ge (tgt := 19) C 17 rfl dX12_ends_14 (by decide) h (fun h => ?_) (fun h => ?_)
    · refine xx_aload_n C 20 rfl 0 dX12_ends_19 rfl rfl ?_
      refine xx_iload_n C 21 rfl 1 dX12_ends_20 rfl rfl ?_
      refine xx_puti (fi := 12) (j := 12) C 24 rfl (by decide) (ceM_0 _ _ _) (puM_12 _ _ _ _) rfl in_X12 tyX12 tyX12_ok nmX12 (by decide) (Nat.le_of_ble_eq_true rfl) ⟨rfl, rfl, rfl⟩ w_1183 dX12_ends_21 h (fun μ21 h => ?_)
      refine xx_aload_n C 25 rfl 0 dX12_ends_24 rfl rfl ?_
      refine xx_aload_n C 26 rfl 0 dX12_ends_25 rfl rfl ?_
      refine xx_geti (fi := 14) (j := 14) C 29 rfl (by decide) (ceM_0 _ _ _) rfl in_X12 (by decide) rfl rfl w_1185 dX12_ends_26 h (fun v26 h => ?_)
      refine xx_puti (fi := 13) (j := 13) C 32 rfl (by decide) (ceM_0 _ _ _) (puM_13 _ _ _ _) rfl in_X12 tyX12 tyX12_ok nmX12 (by decide) (Nat.le_of_ble_eq_true rfl) ⟨rfl, rfl, rfl⟩ w_1184 dX12_ends_29 h (fun μ29 h => ?_)
      refine xx_bipush C 34 rfl dX12_ends_32 (by decide) ?_
      exact xx_iret C E rfl ⟨Nat.le_of_ble_eq_true rfl, Nat.le_of_ble_eq_true rfl⟩ dX12_ends_34 h
    · refine xx_iload_n C 18 rfl 1 dX12_ends_17 rfl rfl ?_
      exact xx_iret C E rfl ⟨Nat.le_of_ble_eq_true rfl, Nat.le_of_ble_eq_true rfl⟩ dX12_ends_18 h
  · refine xx_aload_n C 5 rfl 0 dX12_ends_4 rfl rfl ?_
    refine xx_aload_n C 6 rfl 0 dX12_ends_5 rfl rfl ?_
    refine xx_geti (fi := 15) (j := 15) C 9 rfl (by decide) (ceM_0 _ _ _) rfl in_X12 (by decide) rfl rfl w_1186 dX12_ends_6 h (fun v6 h => ?_)
    refine xx_cVi (As := [.int (iI v6)]) (st := []) (o := 0) C 12 rfl (by decide) (ceM_0 _ _ _) rfl rfl ca_X12_changed cv_X12_changed w_1256 rfl ⟨Nat.le_of_ble_eq_true rfl, Nat.le_of_ble_eq_true rfl⟩ ⟨Nat.le_of_ble_eq_true rfl, Nat.le_of_ble_eq_true rfl⟩ (Nat.le_of_ble_eq_true rfl) dX12_ends_9 (fun v9 μ9 e9 => c_X12_changed _ _ v9 μ9 e9) h (fun v9 μ9 h => ?_) rfl
    exact xx_iret C E rfl ⟨Nat.le_of_ble_eq_true rfl, Nat.le_of_ble_eq_true rfl⟩ dX12_ends_12 h

def f_X12_isUrn (μ : mu_T) (a1 : Int) : Option Int :=
  bd_ (f_X12_in μ a1 0 23) (fun v4 => eq_ v4 0
      (some 0)
      (rd_ μ 1 293 (17 + a1) (fun v18 => eq_ v18 1
      (some 1)
      (some 0))))
set_option maxHeartbeats 4000000 in
set_option maxRecDepth 100000 in
theorem c_X12_isUrn {G : gp_} {ad : Nat → Nat} (μ : mu_T) (a1 : Int) (a : Int) (h : f_X12_isUrn μ a1 = some a) : mi_ yX12_isUrn cX12_isUrn 2 (some .boolean) ({ frames := 1, cells := 0, slots := 0, locals := 22 } : Room) G 9 ad (ceM G ad) [.ref (ad 0), .int (iI a1)] μ a μ := by
  refine mi_in (own := "UrnHeapModel") (lv := [(0, .ref (ad 0)), (1, .int (iI a1))]) (by decide) rfl rfl (Nat.le_of_ble_eq_true rfl) (fun X C E => ?_)
  unfold f_X12_isUrn at h
  refine xx_iload_n C 1 rfl 1 dX12_isUrn_0 rfl rfl ?_
  refine xx_iconst C 2 rfl dX12_isUrn_1 ?_
  refine xx_bipush C 4 rfl dX12_isUrn_2 (by decide) ?_
  refine xx_cSip (As := [.int (iI a1), .int (iI 0), .int (iI 23)]) (st := []) C 7 rfl  ca_X12_in cs_X12_in w_1272 rfl ⟨Nat.le_of_ble_eq_true rfl, Nat.le_of_ble_eq_true rfl⟩ ⟨Nat.le_of_ble_eq_true rfl, Nat.le_of_ble_eq_true rfl⟩ (Nat.le_of_ble_eq_true rfl) dX12_isUrn_4 (fun v4 e9 => c_X12_in _ _ _ _ v4 e9) h (fun v4 h => ?_) rfl
  refine xx_if_eq (tgt := 27) C 10 rfl dX12_isUrn_7 (by decide) h (fun h => ?_) (fun h => ?_)
  · refine xx_iconst C 28 rfl dX12_isUrn_27 ?_
    exact xx_zretl C E rfl rfl ⟨Nat.le_of_ble_eq_true rfl, Nat.le_of_ble_eq_true rfl⟩ dX12_isUrn_28 h
  · refine xx_aload_n C 11 rfl 0 dX12_isUrn_10 rfl rfl ?_
    refine xx_getr (fi := 0) C 14 rfl (by decide) (ceM_0 _ _ _) rfl in_X12 (by decide) rfl rfl w_1171 dX12_isUrn_11 ?_
    refine xx_bipush C 16 rfl dX12_isUrn_14 (by decide) ?_
    refine xx_iload_n C 17 rfl 1 dX12_isUrn_16 rfl rfl ?_
    refine xx_iadd C 18 rfl dX12_isUrn_17 ?_
    refine xx_iaload C 19 rfl (by decide) (fun _ => rfl) (by decide) dX12_isUrn_18 h (fun v18 h => ?_)
    refine xx_iconst C 20 rfl dX12_isUrn_19 ?_
    refine xx_icmp_ne (tgt := 27) C 23 rfl dX12_isUrn_20 (by decide) h (fun h => ?_) (fun h => ?_)
    · refine xx_iconst C 28 rfl dX12_isUrn_27 ?_
      exact xx_zretl C E rfl rfl ⟨Nat.le_of_ble_eq_true rfl, Nat.le_of_ble_eq_true rfl⟩ dX12_isUrn_28 h
    · refine xx_iconst C 24 rfl dX12_isUrn_23 ?_
      refine xx_goto C 28 dX12_isUrn_24 (by decide) ?_
      exact xx_zretl C E rfl rfl ⟨Nat.le_of_ble_eq_true rfl, Nat.le_of_ble_eq_true rfl⟩ dX12_isUrn_28 h

def f_X12_at (μ : mu_T) (a0 : Int) (a1 : Int) : Option Int :=
  some ((137 + (4 * a0)) + a1)
set_option maxHeartbeats 4000000 in
set_option maxRecDepth 100000 in
theorem c_X12_at {G : gp_} {ad : Nat → Nat} (μ : mu_T) (a0 : Int) (a1 : Int) (a : Int) (h : f_X12_at μ a0 a1 = some a) : mi_ yX12_at cX12_at 2 (some .int) ({ frames := 0, cells := 0, slots := 0, locals := 0 } : Room) G 9 ad (ceM G ad) [.int (iI a0), .int (iI a1)] μ a μ := by
  refine mi_in (own := "UrnHeapModel") (lv := [(0, .int (iI a0)), (1, .int (iI a1))]) (by decide) rfl rfl (Nat.le_of_ble_eq_true rfl) (fun X C E => ?_)
  unfold f_X12_at at h
  refine xx_sipush C 3 rfl dX12_at_0 (by decide) ?_
  refine xx_iconst C 4 rfl dX12_at_3 ?_
  refine xx_iload_n C 5 rfl 0 dX12_at_4 rfl rfl ?_
  refine xx_imul C 6 rfl dX12_at_5 ?_
  refine xx_iadd C 7 rfl dX12_at_6 ?_
  refine xx_iload_n C 8 rfl 1 dX12_at_7 rfl rfl ?_
  refine xx_iadd C 9 rfl dX12_at_8 ?_
  exact xx_iretp C E rfl ⟨Nat.le_of_ble_eq_true rfl, Nat.le_of_ble_eq_true rfl⟩ dX12_at_9 h

def f_X12_empties_L53 (a1 : Int) : Nat → Int → mu_T → Option mu_T
  | 0, _, _ => none
  | fu53 + 1, x2_53, μ53 => lt_ x2_53 4
      (bd_ (f_X12_at μ53 a1 x2_53) (fun v64 => wr_ μ53 1 293 v64 (-15) (fun μ69 => nm_ (x2_53 + 1) (fun n70 => (f_X12_empties_L53 a1 fu53) n70 μ69))))
      (some μ53)
def f_X12_empties (μ : mu_T) (a1 : Int) : Option mu_T :=
  wr_ μ 1 293 (17 + a1) 0 (fun μ9 => wr_ μ9 1 293 (41 + a1) 0 (fun μ19 => wr_ μ19 1 293 (65 + a1) 0 (fun μ29 => wr_ μ29 1 293 (89 + a1) 0 (fun μ39 => wr_ μ39 1 293 (113 + a1) (-15) (fun μ50 => f_X12_empties_L53 a1 20000 0 μ50)))))
set_option maxHeartbeats 4000000 in
set_option maxRecDepth 100000 in
theorem c_X12_empties {G : gp_} {ad : Nat → Nat} (μ : mu_T) (a1 : Int) (μr : mu_T) (h : f_X12_empties μ a1 = some μr) : mv_ yX12_empties cX12_empties 3 ({ frames := 1, cells := 0, slots := 0, locals := 21 } : Room) G 9 ad (ceM G ad) [.ref (ad 0), .int (iI a1)] μ μr := by
  refine mv_in (own := "UrnHeapModel") (lv := [(0, .ref (ad 0)), (1, .int (iI a1))]) (by decide) rfl rfl (Nat.le_of_ble_eq_true rfl) (fun X C E => ?_)
  unfold f_X12_empties at h
  refine xx_aload_n C 1 rfl 0 dX12_empties_0 rfl rfl ?_
  refine xx_getr (fi := 0) C 4 rfl (by decide) (ceM_0 _ _ _) rfl in_X12 (by decide) rfl rfl w_1171 dX12_empties_1 ?_
  refine xx_bipush C 6 rfl dX12_empties_4 (by decide) ?_
  refine xx_iload_n C 7 rfl 1 dX12_empties_6 rfl rfl ?_
  refine xx_iadd C 8 rfl dX12_empties_7 ?_
  refine xx_iconst C 9 rfl dX12_empties_8 ?_
  refine xx_iastore C 10 rfl (by decide) (fun _ => rfl) (by decide) dX12_empties_9 h (fun μ9 h => ?_)
  refine xx_aload_n C 11 rfl 0 dX12_empties_10 rfl rfl ?_
  refine xx_getr (fi := 0) C 14 rfl (by decide) (ceM_0 _ _ _) rfl in_X12 (by decide) rfl rfl w_1171 dX12_empties_11 ?_
  refine xx_bipush C 16 rfl dX12_empties_14 (by decide) ?_
  refine xx_iload_n C 17 rfl 1 dX12_empties_16 rfl rfl ?_
  refine xx_iadd C 18 rfl dX12_empties_17 ?_
  refine xx_iconst C 19 rfl dX12_empties_18 ?_
  refine xx_iastore C 20 rfl (by decide) (fun _ => rfl) (by decide) dX12_empties_19 h (fun μ19 h => ?_)
  refine xx_aload_n C 21 rfl 0 dX12_empties_20 rfl rfl ?_
  refine xx_getr (fi := 0) C 24 rfl (by decide) (ceM_0 _ _ _) rfl in_X12 (by decide) rfl rfl w_1171 dX12_empties_21 ?_
  refine xx_bipush C 26 rfl dX12_empties_24 (by decide) ?_
  refine xx_iload_n C 27 rfl 1 dX12_empties_26 rfl rfl ?_
  refine xx_iadd C 28 rfl dX12_empties_27 ?_
  refine xx_iconst C 29 rfl dX12_empties_28 ?_
  refine xx_iastore C 30 rfl (by decide) (fun _ => rfl) (by decide) dX12_empties_29 h (fun μ29 h => ?_)
  refine xx_aload_n C 31 rfl 0 dX12_empties_30 rfl rfl ?_
  refine xx_getr (fi := 0) C 34 rfl (by decide) (ceM_0 _ _ _) rfl in_X12 (by decide) rfl rfl w_1171 dX12_empties_31 ?_
  refine xx_bipush C 36 rfl dX12_empties_34 (by decide) ?_
  refine xx_iload_n C 37 rfl 1 dX12_empties_36 rfl rfl ?_
  refine xx_iadd C 38 rfl dX12_empties_37 ?_
  refine xx_iconst C 39 rfl dX12_empties_38 ?_
  refine xx_iastore C 40 rfl (by decide) (fun _ => rfl) (by decide) dX12_empties_39 h (fun μ39 h => ?_)
  refine xx_aload_n C 41 rfl 0 dX12_empties_40 rfl rfl ?_
  refine xx_getr (fi := 0) C 44 rfl (by decide) (ceM_0 _ _ _) rfl in_X12 (by decide) rfl rfl w_1171 dX12_empties_41 ?_
  refine xx_bipush C 46 rfl dX12_empties_44 (by decide) ?_
  refine xx_iload_n C 47 rfl 1 dX12_empties_46 rfl rfl ?_
  refine xx_iadd C 48 rfl dX12_empties_47 ?_
  refine xx_bipush C 50 rfl dX12_empties_48 (by decide) ?_
  refine xx_iastore C 51 rfl (by decide) (fun _ => rfl) (by decide) dX12_empties_50 h (fun μ50 h => ?_)
  refine xx_iconst C 52 rfl dX12_empties_51 ?_
  refine xx_istore_n (lv1 := [(2, .int (iI 0)), (0, .ref (ad 0)), (1, .int (iI a1))]) C 53 rfl (by decide) dX12_empties_52 rfl rfl ?_
  have L53 : ∀ (fu53 : Nat) (x2_53 : Int) (μ53 : mu_T), f_X12_empties_L53 a1 fu53 x2_53 μ53 = some μr → wx_ G X 9 ad (ceM G ad) μ53 0 0 53 [(0, .ref (ad 0)), (1, .int (iI a1)), (2, .int (iI x2_53))] [] := by
    intro fu53
    induction fu53 with
    | zero => intro x2_53 μ53 h; exact nn_ h
    | succ fu53 K53 =>
      intro x2_53 μ53 h
      rw [f_X12_empties_L53] at h
      generalize f_X12_empties_L53 a1 fu53 = R53 at K53 h
      refine xx_iload_n C 54 rfl 2 dX12_empties_53 rfl rfl ?_
      refine xx_iconst C 55 rfl dX12_empties_54 ?_
      refine xx_icmp_ge (tgt := 76) C 58 rfl dX12_empties_55 (by decide) h (fun h => ?_) (fun h => ?_)
      · exact xx_vret C E rfl ⟨Nat.le_of_ble_eq_true rfl, Nat.le_of_ble_eq_true rfl⟩ dX12_empties_76 h
      · refine xx_aload_n C 59 rfl 0 dX12_empties_58 rfl rfl ?_
        refine xx_getr (fi := 0) C 62 rfl (by decide) (ceM_0 _ _ _) rfl in_X12 (by decide) rfl rfl w_1171 dX12_empties_59 ?_
        refine xx_iload_n C 63 rfl 1 dX12_empties_62 rfl rfl ?_
        refine xx_iload_n C 64 rfl 2 dX12_empties_63 rfl rfl ?_
        refine xx_cSip (As := [.int (iI a1), .int (iI x2_53)]) (st := [.ref (ad 1)]) C 67 rfl  ca_X12_at cs_X12_at w_1168 rfl ⟨Nat.le_of_ble_eq_true rfl, Nat.le_of_ble_eq_true rfl⟩ ⟨Nat.le_of_ble_eq_true rfl, Nat.le_of_ble_eq_true rfl⟩ (Nat.le_of_ble_eq_true rfl) dX12_empties_64 (fun v64 e9 => c_X12_at _ _ _ v64 e9) h (fun v64 h => ?_) rfl
        refine xx_bipush C 69 rfl dX12_empties_67 (by decide) ?_
        refine xx_iastore C 70 rfl (by decide) (fun _ => rfl) (by decide) dX12_empties_69 h (fun μ69 h => ?_)
        refine xx_iincn C 73 rfl 2 (by decide) dX12_empties_70 rfl h (fun n70 h => ?_)
        refine xx_lv (lv1 := [(2, .int (iI n70)), (0, .ref (ad 0)), (1, .int (iI a1))]) rfl ?_
        refine xx_goto C 53 dX12_empties_73 (by decide) ?_
        refine xx_sub [1, 2, 0] rfl ?_
        exact K53 n70 μ69 h
  refine xx_sub [1, 2, 0] rfl ?_
  exact L53 _ _ _ h

def f_X12_isDoomed (μ : mu_T) (a1 : Int) : Option Int :=
  rd_ μ 1 293 0 (fun v5 => eq_ v5 2
      (rd_ μ 1 293 (41 + a1) (fun v18 => eq_ v18 0
      (rd_ μ 1 293 1 (fun v28 => lt_ a1 v28
      (some 0)
      (some 1)))
      (some 0)))
      (some 0))
set_option maxHeartbeats 4000000 in
set_option maxRecDepth 100000 in
theorem c_X12_isDoomed {G : gp_} {ad : Nat → Nat} (μ : mu_T) (a1 : Int) (a : Int) (h : f_X12_isDoomed μ a1 = some a) : mi_ yX12_isDoomed cX12_isDoomed 2 (some .boolean) ({ frames := 0, cells := 0, slots := 0, locals := 0 } : Room) G 9 ad (ceM G ad) [.ref (ad 0), .int (iI a1)] μ a μ := by
  refine mi_in (own := "UrnHeapModel") (lv := [(0, .ref (ad 0)), (1, .int (iI a1))]) (by decide) rfl rfl (Nat.le_of_ble_eq_true rfl) (fun X C E => ?_)
  unfold f_X12_isDoomed at h
  refine xx_aload_n C 1 rfl 0 dX12_isDoomed_0 rfl rfl ?_
  refine xx_getr (fi := 0) C 4 rfl (by decide) (ceM_0 _ _ _) rfl in_X12 (by decide) rfl rfl w_1171 dX12_isDoomed_1 ?_
  refine xx_iconst C 5 rfl dX12_isDoomed_4 ?_
  refine xx_iaload C 6 rfl (by decide) (fun _ => rfl) (by decide) dX12_isDoomed_5 h (fun v5 h => ?_)
  refine xx_iconst C 7 rfl dX12_isDoomed_6 ?_
  refine xx_icmp_ne (tgt := 36) C 10 rfl dX12_isDoomed_7 (by decide) h (fun h => ?_) (fun h => ?_)
  · refine xx_iconst C 37 rfl dX12_isDoomed_36 ?_
    exact xx_zretl C E rfl rfl ⟨Nat.le_of_ble_eq_true rfl, Nat.le_of_ble_eq_true rfl⟩ dX12_isDoomed_37 h
  · refine xx_aload_n C 11 rfl 0 dX12_isDoomed_10 rfl rfl ?_
    refine xx_getr (fi := 0) C 14 rfl (by decide) (ceM_0 _ _ _) rfl in_X12 (by decide) rfl rfl w_1171 dX12_isDoomed_11 ?_
    refine xx_bipush C 16 rfl dX12_isDoomed_14 (by decide) ?_
    refine xx_iload_n C 17 rfl 1 dX12_isDoomed_16 rfl rfl ?_
    refine xx_iadd C 18 rfl dX12_isDoomed_17 ?_
    refine xx_iaload C 19 rfl (by decide) (fun _ => rfl) (by decide) dX12_isDoomed_18 h (fun v18 h => ?_)
    refine xx_if_ne (tgt := 36) C 22 rfl dX12_isDoomed_19 (by decide) h (fun h => ?_) (fun h => ?_)
    · refine xx_iconst C 37 rfl dX12_isDoomed_36 ?_
      exact xx_zretl C E rfl rfl ⟨Nat.le_of_ble_eq_true rfl, Nat.le_of_ble_eq_true rfl⟩ dX12_isDoomed_37 h
    · refine xx_iload_n C 23 rfl 1 dX12_isDoomed_22 rfl rfl ?_
      refine xx_aload_n C 24 rfl 0 dX12_isDoomed_23 rfl rfl ?_
      refine xx_getr (fi := 0) C 27 rfl (by decide) (ceM_0 _ _ _) rfl in_X12 (by decide) rfl rfl w_1171 dX12_isDoomed_24 ?_
      refine xx_iconst C 28 rfl dX12_isDoomed_27 ?_
      refine xx_iaload C 29 rfl (by decide) (fun _ => rfl) (by decide) dX12_isDoomed_28 h (fun v28 h => ?_)
      refine xx_icmp_lt (tgt := 36) C 32 rfl dX12_isDoomed_29 (by decide) h (fun h => ?_) (fun h => ?_)
      · refine xx_iconst C 37 rfl dX12_isDoomed_36 ?_
        exact xx_zretl C E rfl rfl ⟨Nat.le_of_ble_eq_true rfl, Nat.le_of_ble_eq_true rfl⟩ dX12_isDoomed_37 h
      · refine xx_iconst C 33 rfl dX12_isDoomed_32 ?_
        refine xx_goto C 37 dX12_isDoomed_33 (by decide) ?_
        exact xx_zretl C E rfl rfl ⟨Nat.le_of_ble_eq_true rfl, Nat.le_of_ble_eq_true rfl⟩ dX12_isDoomed_37 h

def f_X12_greys (μ : mu_T) (a1 : Int) : Option mu_T :=
  wr_ μ 1 293 (41 + a1) 1 (fun μ9 => rd_ μ9 1 293 8 (fun v23 => wr_ μ9 1 293 (233 + v23) a1 (fun μ26 => rd_ μ26 1 293 8 (fun v34 => wr_ μ26 1 293 8 (v34 + 1) (fun μ37 => some μ37)))))
set_option maxHeartbeats 4000000 in
set_option maxRecDepth 100000 in
theorem c_X12_greys {G : gp_} {ad : Nat → Nat} (μ : mu_T) (a1 : Int) (μr : mu_T) (h : f_X12_greys μ a1 = some μr) : mv_ yX12_greys cX12_greys 2 ({ frames := 0, cells := 0, slots := 0, locals := 0 } : Room) G 9 ad (ceM G ad) [.ref (ad 0), .int (iI a1)] μ μr := by
  refine mv_in (own := "UrnHeapModel") (lv := [(0, .ref (ad 0)), (1, .int (iI a1))]) (by decide) rfl rfl (Nat.le_of_ble_eq_true rfl) (fun X C E => ?_)
  unfold f_X12_greys at h
  refine xx_aload_n C 1 rfl 0 dX12_greys_0 rfl rfl ?_
  refine xx_getr (fi := 0) C 4 rfl (by decide) (ceM_0 _ _ _) rfl in_X12 (by decide) rfl rfl w_1171 dX12_greys_1 ?_
  refine xx_bipush C 6 rfl dX12_greys_4 (by decide) ?_
  refine xx_iload_n C 7 rfl 1 dX12_greys_6 rfl rfl ?_
  refine xx_iadd C 8 rfl dX12_greys_7 ?_
  refine xx_iconst C 9 rfl dX12_greys_8 ?_
  refine xx_iastore C 10 rfl (by decide) (fun _ => rfl) (by decide) dX12_greys_9 h (fun μ9 h => ?_)
  refine xx_aload_n C 11 rfl 0 dX12_greys_10 rfl rfl ?_
  refine xx_getr (fi := 0) C 14 rfl (by decide) (ceM_0 _ _ _) rfl in_X12 (by decide) rfl rfl w_1171 dX12_greys_11 ?_
  refine xx_sipush C 17 rfl dX12_greys_14 (by decide) ?_
  refine xx_aload_n C 18 rfl 0 dX12_greys_17 rfl rfl ?_
  refine xx_getr (fi := 0) C 21 rfl (by decide) (ceM_0 _ _ _) rfl in_X12 (by decide) rfl rfl w_1171 dX12_greys_18 ?_
  refine xx_bipush C 23 rfl dX12_greys_21 (by decide) ?_
  refine xx_iaload C 24 rfl (by decide) (fun _ => rfl) (by decide) dX12_greys_23 h (fun v23 h => ?_)
  refine xx_iadd C 25 rfl dX12_greys_24 ?_
  refine xx_iload_n C 26 rfl 1 dX12_greys_25 rfl rfl ?_
  refine xx_iastore C 27 rfl (by decide) (fun _ => rfl) (by decide) dX12_greys_26 h (fun μ26 h => ?_)
  refine xx_aload_n C 28 rfl 0 dX12_greys_27 rfl rfl ?_
  refine xx_getr (fi := 0) C 31 rfl (by decide) (ceM_0 _ _ _) rfl in_X12 (by decide) rfl rfl w_1171 dX12_greys_28 ?_
  refine xx_bipush C 33 rfl dX12_greys_31 (by decide) ?_
  refine xx_dup2 C 34 rfl dX12_greys_33 rfl rfl ?_
  refine xx_iaload C 35 rfl (by decide) (fun _ => rfl) (by decide) dX12_greys_34 h (fun v34 h => ?_)
  refine xx_iconst C 36 rfl dX12_greys_35 ?_
  refine xx_iadd C 37 rfl dX12_greys_36 ?_
  refine xx_iastore C 38 rfl (by decide) (fun _ => rfl) (by decide) dX12_greys_37 h (fun μ37 h => ?_)
  exact xx_vret C E rfl ⟨Nat.le_of_ble_eq_true rfl, Nat.le_of_ble_eq_true rfl⟩ dX12_greys_38 h

def f_X12_greysIfWhite (μ : mu_T) (a1 : Int) : Option mu_T :=
  eq_ a1 (-15)
      (some μ)
      (rd_ μ 1 293 (41 + a1) (fun v14 => eq_ v14 0
      (bd_ (f_X12_greys μ a1) (fun μ20 => some μ20))
      (some μ)))
set_option maxHeartbeats 4000000 in
set_option maxRecDepth 100000 in
theorem c_X12_greysIfWhite {G : gp_} {ad : Nat → Nat} (μ : mu_T) (a1 : Int) (μr : mu_T) (h : f_X12_greysIfWhite μ a1 = some μr) : mv_ yX12_greysIfWhite cX12_greysIfWhite 2 ({ frames := 1, cells := 0, slots := 0, locals := 21 } : Room) G 9 ad (ceM G ad) [.ref (ad 0), .int (iI a1)] μ μr := by
  refine mv_in (own := "UrnHeapModel") (lv := [(0, .ref (ad 0)), (1, .int (iI a1))]) (by decide) rfl rfl (Nat.le_of_ble_eq_true rfl) (fun X C E => ?_)
  unfold f_X12_greysIfWhite at h
  refine xx_iload_n C 1 rfl 1 dX12_greysIfWhite_0 rfl rfl ?_
  refine xx_bipush C 3 rfl dX12_greysIfWhite_1 (by decide) ?_
  refine xx_icmp_eq (tgt := 23) C 6 rfl dX12_greysIfWhite_3 (by decide) h (fun h => ?_) (fun h => ?_)
  · exact xx_vret C E rfl ⟨Nat.le_of_ble_eq_true rfl, Nat.le_of_ble_eq_true rfl⟩ dX12_greysIfWhite_23 h
  · refine xx_aload_n C 7 rfl 0 dX12_greysIfWhite_6 rfl rfl ?_
    refine xx_getr (fi := 0) C 10 rfl (by decide) (ceM_0 _ _ _) rfl in_X12 (by decide) rfl rfl w_1171 dX12_greysIfWhite_7 ?_
    refine xx_bipush C 12 rfl dX12_greysIfWhite_10 (by decide) ?_
    refine xx_iload_n C 13 rfl 1 dX12_greysIfWhite_12 rfl rfl ?_
    refine xx_iadd C 14 rfl dX12_greysIfWhite_13 ?_
    refine xx_iaload C 15 rfl (by decide) (fun _ => rfl) (by decide) dX12_greysIfWhite_14 h (fun v14 h => ?_)
    refine xx_if_ne (tgt := 23) C 18 rfl dX12_greysIfWhite_15 (by decide) h (fun h => ?_) (fun h => ?_)
    · exact xx_vret C E rfl ⟨Nat.le_of_ble_eq_true rfl, Nat.le_of_ble_eq_true rfl⟩ dX12_greysIfWhite_23 h
    · refine xx_aload_n C 19 rfl 0 dX12_greysIfWhite_18 rfl rfl ?_
      refine xx_iload_n C 20 rfl 1 dX12_greysIfWhite_19 rfl rfl ?_
      refine xx_cVv (As := [.int (iI a1)]) (st := []) (o := 0) C 23 rfl (by decide) (ceM_0 _ _ _) rfl rfl ca_X12_greys cv_X12_greys w_1283 rfl ⟨Nat.le_of_ble_eq_true rfl, Nat.le_of_ble_eq_true rfl⟩ ⟨Nat.le_of_ble_eq_true rfl, Nat.le_of_ble_eq_true rfl⟩ (Nat.le_of_ble_eq_true rfl) dX12_greysIfWhite_20 (fun μ20 e9 => c_X12_greys _ _ μ20 e9) h (fun μ20 h => ?_) rfl
      exact xx_vret C E rfl ⟨Nat.le_of_ble_eq_true rfl, Nat.le_of_ble_eq_true rfl⟩ dX12_greysIfWhite_23 h

def f_X12_beginsRound_L36 (J67 : mu_T → Option (Int × mu_T)) : Nat → Int → mu_T → Option (Int × mu_T)
  | 0, _, _ => none
  | fu36 + 1, x1_36, μ36 => rd_ μ36 1 293 9 (fun v43 => lt_ x1_36 v43
      (rd_ μ36 1 293 (257 + x1_36) (fun v57 => bd_ (f_X12_greysIfWhite μ36 v57) (fun μ58 => nm_ (x1_36 + 1) (fun n61 => (f_X12_beginsRound_L36 J67 fu36) n61 μ58))))
      (J67 μ36))
def f_X12_beginsRound_L9 (J34 : mu_T → Option (Int × mu_T)) : Nat → Int → mu_T → Option (Int × mu_T)
  | 0, _, _ => none
  | fu9 + 1, x1_9, μ9 => lt_ x1_9 6
      (rd_ μ9 1 293 (11 + x1_9) (fun v24 => bd_ (f_X12_greysIfWhite μ9 v24) (fun μ25 => nm_ (x1_9 + 1) (fun n28 => (f_X12_beginsRound_L9 J34 fu9) n28 μ25))))
      (J34 μ9)
def f_X12_beginsRound (μ : mu_T)  : Option (Int × mu_T) :=
  wr_ μ 1 293 0 1 (fun μ6 => jn_ (φ := mu_T → Option (Int × mu_T)) (fun μ34 => jn_ (φ := mu_T → Option (Int × mu_T)) (fun μ67 => rd_ μ67 1 293 8 (fun v73 => some (v73, μ67)))
      (fun J67 => f_X12_beginsRound_L36 J67 20000 0 μ34))
      (fun J34 => f_X12_beginsRound_L9 J34 20000 0 μ6))
set_option maxHeartbeats 4000000 in
set_option maxRecDepth 100000 in
theorem c_X12_beginsRound {G : gp_} {ad : Nat → Nat} (μ : mu_T)  (a : Int) (μr : mu_T) (h : f_X12_beginsRound μ  = some (a, μr)) : mi_ yX12_beginsRound cX12_beginsRound 2 (some .int) ({ frames := 2, cells := 0, slots := 0, locals := 42 } : Room) G 9 ad (ceM G ad) [.ref (ad 0)] μ a μr := by
  refine mi_in (own := "UrnHeapModel") (lv := [(0, .ref (ad 0))]) (by decide) rfl rfl (Nat.le_of_ble_eq_true rfl) (fun X C E => ?_)
  unfold f_X12_beginsRound at h
  refine xx_aload_n C 1 rfl 0 dX12_beginsRound_0 rfl rfl ?_
  refine xx_getr (fi := 0) C 4 rfl (by decide) (ceM_0 _ _ _) rfl in_X12 (by decide) rfl rfl w_1171 dX12_beginsRound_1 ?_
  refine xx_iconst C 5 rfl dX12_beginsRound_4 ?_
  refine xx_iconst C 6 rfl dX12_beginsRound_5 ?_
  refine xx_iastore C 7 rfl (by decide) (fun _ => rfl) (by decide) dX12_beginsRound_6 h (fun μ6 h => ?_)
  refine xx_iconst C 8 rfl dX12_beginsRound_7 ?_
  refine xx_istore_n (lv1 := [(1, .int (iI 0)), (0, .ref (ad 0))]) C 9 rfl (by decide) dX12_beginsRound_8 rfl rfl ?_
  refine jn_r (fun J => ∀ (μ34 : mu_T), J μ34 = some (a, μr) → wx_ G X 9 ad (ceM G ad) μ34 0 0 34 [(0, .ref (ad 0))] []) h (fun μ34 h => ?_) (fun J34 K34 h => ?_)
  · refine xx_iconst C 35 rfl dX12_beginsRound_34 ?_
    refine xx_istore_n (lv1 := [(1, .int (iI 0)), (0, .ref (ad 0))]) C 36 rfl (by decide) dX12_beginsRound_35 rfl rfl ?_
    refine jn_r (fun J => ∀ (μ67 : mu_T), J μ67 = some (a, μr) → wx_ G X 9 ad (ceM G ad) μ67 0 0 67 [(0, .ref (ad 0))] []) h (fun μ67 h => ?_) (fun J67 K67 h => ?_)
    · refine xx_aload_n C 68 rfl 0 dX12_beginsRound_67 rfl rfl ?_
      refine xx_getr (fi := 0) C 71 rfl (by decide) (ceM_0 _ _ _) rfl in_X12 (by decide) rfl rfl w_1171 dX12_beginsRound_68 ?_
      refine xx_bipush C 73 rfl dX12_beginsRound_71 (by decide) ?_
      refine xx_iaload C 74 rfl (by decide) (fun _ => rfl) (by decide) dX12_beginsRound_73 h (fun v73 h => ?_)
      exact xx_iret C E rfl ⟨Nat.le_of_ble_eq_true rfl, Nat.le_of_ble_eq_true rfl⟩ dX12_beginsRound_74 h
    · have L36 : ∀ (fu36 : Nat) (x1_36 : Int) (μ36 : mu_T), f_X12_beginsRound_L36 J67 fu36 x1_36 μ36 = some (a, μr) → wx_ G X 9 ad (ceM G ad) μ36 0 0 36 [(0, .ref (ad 0)), (1, .int (iI x1_36))] [] := by
        intro fu36
        induction fu36 with
        | zero => intro x1_36 μ36 h; exact nn_ h
        | succ fu36 K36 =>
          intro x1_36 μ36 h
          rw [f_X12_beginsRound_L36] at h
          generalize f_X12_beginsRound_L36 J67 fu36 = R36 at K36 h
          refine xx_iload_n C 37 rfl 1 dX12_beginsRound_36 rfl rfl ?_
          refine xx_aload_n C 38 rfl 0 dX12_beginsRound_37 rfl rfl ?_
          refine xx_getr (fi := 0) C 41 rfl (by decide) (ceM_0 _ _ _) rfl in_X12 (by decide) rfl rfl w_1171 dX12_beginsRound_38 ?_
          refine xx_bipush C 43 rfl dX12_beginsRound_41 (by decide) ?_
          refine xx_iaload C 44 rfl (by decide) (fun _ => rfl) (by decide) dX12_beginsRound_43 h (fun v43 h => ?_)
          refine xx_icmp_ge (tgt := 67) C 47 rfl dX12_beginsRound_44 (by decide) h (fun h => ?_) (fun h => ?_)
          · refine xx_sub [0] rfl ?_
            exact K67 μ36 h
          · refine xx_aload_n C 48 rfl 0 dX12_beginsRound_47 rfl rfl ?_
            refine xx_aload_n C 49 rfl 0 dX12_beginsRound_48 rfl rfl ?_
            refine xx_getr (fi := 0) C 52 rfl (by decide) (ceM_0 _ _ _) rfl in_X12 (by decide) rfl rfl w_1171 dX12_beginsRound_49 ?_
            refine xx_sipush C 55 rfl dX12_beginsRound_52 (by decide) ?_
            refine xx_iload_n C 56 rfl 1 dX12_beginsRound_55 rfl rfl ?_
            refine xx_iadd C 57 rfl dX12_beginsRound_56 ?_
            refine xx_iaload C 58 rfl (by decide) (fun _ => rfl) (by decide) dX12_beginsRound_57 h (fun v57 h => ?_)
            refine xx_cVv (As := [.int (iI v57)]) (st := []) (o := 0) C 61 rfl (by decide) (ceM_0 _ _ _) rfl rfl ca_X12_greysIfWhite cv_X12_greysIfWhite w_1279 rfl ⟨Nat.le_of_ble_eq_true rfl, Nat.le_of_ble_eq_true rfl⟩ ⟨Nat.le_of_ble_eq_true rfl, Nat.le_of_ble_eq_true rfl⟩ (Nat.le_of_ble_eq_true rfl) dX12_beginsRound_58 (fun μ58 e9 => c_X12_greysIfWhite _ _ μ58 e9) h (fun μ58 h => ?_) rfl
            refine xx_iincn C 64 rfl 1 (by decide) dX12_beginsRound_61 rfl h (fun n61 h => ?_)
            refine xx_lv (lv1 := [(1, .int (iI n61)), (0, .ref (ad 0))]) rfl ?_
            refine xx_goto C 36 dX12_beginsRound_64 (by decide) ?_
            refine xx_sub [1, 0] rfl ?_
            exact K36 n61 μ58 h
      refine xx_sub [1, 0] rfl ?_
      exact L36 _ _ _ h
  · have L9 : ∀ (fu9 : Nat) (x1_9 : Int) (μ9 : mu_T), f_X12_beginsRound_L9 J34 fu9 x1_9 μ9 = some (a, μr) → wx_ G X 9 ad (ceM G ad) μ9 0 0 9 [(0, .ref (ad 0)), (1, .int (iI x1_9))] [] := by
      intro fu9
      induction fu9 with
      | zero => intro x1_9 μ9 h; exact nn_ h
      | succ fu9 K9 =>
        intro x1_9 μ9 h
        rw [f_X12_beginsRound_L9] at h
        generalize f_X12_beginsRound_L9 J34 fu9 = R9 at K9 h
        refine xx_iload_n C 10 rfl 1 dX12_beginsRound_9 rfl rfl ?_
        refine xx_bipush C 12 rfl dX12_beginsRound_10 (by decide) ?_
        refine xx_icmp_ge (tgt := 34) C 15 rfl dX12_beginsRound_12 (by decide) h (fun h => ?_) (fun h => ?_)
        · refine xx_sub [0] rfl ?_
          exact K34 μ9 h
        · refine xx_aload_n C 16 rfl 0 dX12_beginsRound_15 rfl rfl ?_
          refine xx_aload_n C 17 rfl 0 dX12_beginsRound_16 rfl rfl ?_
          refine xx_getr (fi := 0) C 20 rfl (by decide) (ceM_0 _ _ _) rfl in_X12 (by decide) rfl rfl w_1171 dX12_beginsRound_17 ?_
          refine xx_bipush C 22 rfl dX12_beginsRound_20 (by decide) ?_
          refine xx_iload_n C 23 rfl 1 dX12_beginsRound_22 rfl rfl ?_
          refine xx_iadd C 24 rfl dX12_beginsRound_23 ?_
          refine xx_iaload C 25 rfl (by decide) (fun _ => rfl) (by decide) dX12_beginsRound_24 h (fun v24 h => ?_)
          refine xx_cVv (As := [.int (iI v24)]) (st := []) (o := 0) C 28 rfl (by decide) (ceM_0 _ _ _) rfl rfl ca_X12_greysIfWhite cv_X12_greysIfWhite w_1279 rfl ⟨Nat.le_of_ble_eq_true rfl, Nat.le_of_ble_eq_true rfl⟩ ⟨Nat.le_of_ble_eq_true rfl, Nat.le_of_ble_eq_true rfl⟩ (Nat.le_of_ble_eq_true rfl) dX12_beginsRound_25 (fun μ25 e9 => c_X12_greysIfWhite _ _ μ25 e9) h (fun μ25 h => ?_) rfl
          refine xx_iincn C 31 rfl 1 (by decide) dX12_beginsRound_28 rfl h (fun n28 h => ?_)
          refine xx_lv (lv1 := [(1, .int (iI n28)), (0, .ref (ad 0))]) rfl ?_
          refine xx_goto C 9 dX12_beginsRound_31 (by decide) ?_
          refine xx_sub [1, 0] rfl ?_
          exact K9 n28 μ25 h
    refine xx_sub [1, 0] rfl ?_
    exact L9 _ _ _ h

def f_X12_blackens_L90 (v7 : Int) : Nat → Int → mu_T → Option mu_T
  | 0, _, _ => none
  | fu90 + 1, x2_90, μ90 => lt_ x2_90 4
      (bd_ (f_X12_at μ90 v7 x2_90) (fun v102 => rd_ μ90 1 293 v102 (fun v105 => bd_ (f_X12_greysIfWhite μ90 v105) (fun μ106 => nm_ (x2_90 + 1) (fun n109 => (f_X12_blackens_L90 v7 fu90) n109 μ106)))))
      (some μ90)
def f_X12_blackens_L22 (J61 : mu_T → Option mu_T) : Nat → Int → mu_T → Option mu_T
  | 0, _, _ => none
  | fu22 + 1, x2_22, μ22 => rd_ μ22 1 293 8 (fun v29 => lt_ x2_22 v29
      (rd_ μ22 1 293 ((233 + x2_22) + 1) (fun v53 => wr_ μ22 1 293 (233 + x2_22) v53 (fun μ54 => nm_ (x2_22 + 1) (fun n55 => (f_X12_blackens_L22 J61 fu22) n55 μ54))))
      (J61 μ22))
def f_X12_blackens (μ : mu_T)  : Option mu_T :=
  rd_ μ 1 293 233 (fun v7 => rd_ μ 1 293 8 (fun v16 => wr_ μ 1 293 8 (v16 - 1) (fun μ19 => jn_ (φ := mu_T → Option mu_T) (fun μ61 => rd_ μ61 1 293 8 (fun v74 => wr_ μ61 1 293 (233 + v74) 0 (fun μ77 => wr_ μ77 1 293 (41 + v7) 2 (fun μ87 => f_X12_blackens_L90 v7 20000 0 μ87))))
      (fun J61 => f_X12_blackens_L22 J61 20000 0 μ19))))
set_option maxHeartbeats 4000000 in
set_option maxRecDepth 100000 in
theorem c_X12_blackens {G : gp_} {ad : Nat → Nat} (μ : mu_T)  (μr : mu_T) (h : f_X12_blackens μ  = some μr) : mv_ yX12_blackens cX12_blackens 3 ({ frames := 2, cells := 0, slots := 0, locals := 42 } : Room) G 9 ad (ceM G ad) [.ref (ad 0)] μ μr := by
  refine mv_in (own := "UrnHeapModel") (lv := [(0, .ref (ad 0))]) (by decide) rfl rfl (Nat.le_of_ble_eq_true rfl) (fun X C E => ?_)
  unfold f_X12_blackens at h
  refine xx_aload_n C 1 rfl 0 dX12_blackens_0 rfl rfl ?_
  refine xx_getr (fi := 0) C 4 rfl (by decide) (ceM_0 _ _ _) rfl in_X12 (by decide) rfl rfl w_1171 dX12_blackens_1 ?_
  refine xx_sipush C 7 rfl dX12_blackens_4 (by decide) ?_
  refine xx_iaload C 8 rfl (by decide) (fun _ => rfl) (by decide) dX12_blackens_7 h (fun v7 h => ?_)
  refine xx_istore_n (lv1 := [(1, .int (iI v7)), (0, .ref (ad 0))]) C 9 rfl (by decide) dX12_blackens_8 rfl rfl ?_
  refine xx_aload_n C 10 rfl 1 dX12_blackens_9 rfl rfl ?_
  refine xx_getr (fi := 0) C 13 rfl (by decide) (ceM_0 _ _ _) rfl in_X12 (by decide) rfl rfl w_1171 dX12_blackens_10 ?_
  refine xx_bipush C 15 rfl dX12_blackens_13 (by decide) ?_
  refine xx_dup2 C 16 rfl dX12_blackens_15 rfl rfl ?_
  refine xx_iaload C 17 rfl (by decide) (fun _ => rfl) (by decide) dX12_blackens_16 h (fun v16 h => ?_)
  refine xx_iconst C 18 rfl dX12_blackens_17 ?_
  refine xx_isub C 19 rfl dX12_blackens_18 ?_
  refine xx_iastore C 20 rfl (by decide) (fun _ => rfl) (by decide) dX12_blackens_19 h (fun μ19 h => ?_)
  refine xx_iconst C 21 rfl dX12_blackens_20 ?_
  refine xx_istore_n (lv1 := [(2, .int (iI 0)), (1, .int (iI v7)), (0, .ref (ad 0))]) C 22 rfl (by decide) dX12_blackens_21 rfl rfl ?_
  refine jn_r (fun J => ∀ (μ61 : mu_T), J μ61 = some μr → wx_ G X 9 ad (ceM G ad) μ61 0 0 61 [(0, .ref (ad 0)), (1, .int (iI v7))] []) h (fun μ61 h => ?_) (fun J61 K61 h => ?_)
  · refine xx_aload_n C 62 rfl 0 dX12_blackens_61 rfl rfl ?_
    refine xx_getr (fi := 0) C 65 rfl (by decide) (ceM_0 _ _ _) rfl in_X12 (by decide) rfl rfl w_1171 dX12_blackens_62 ?_
    refine xx_sipush C 68 rfl dX12_blackens_65 (by decide) ?_
    refine xx_aload_n C 69 rfl 0 dX12_blackens_68 rfl rfl ?_
    refine xx_getr (fi := 0) C 72 rfl (by decide) (ceM_0 _ _ _) rfl in_X12 (by decide) rfl rfl w_1171 dX12_blackens_69 ?_
    refine xx_bipush C 74 rfl dX12_blackens_72 (by decide) ?_
    refine xx_iaload C 75 rfl (by decide) (fun _ => rfl) (by decide) dX12_blackens_74 h (fun v74 h => ?_)
    refine xx_iadd C 76 rfl dX12_blackens_75 ?_
    refine xx_iconst C 77 rfl dX12_blackens_76 ?_
    refine xx_iastore C 78 rfl (by decide) (fun _ => rfl) (by decide) dX12_blackens_77 h (fun μ77 h => ?_)
    refine xx_aload_n C 79 rfl 0 dX12_blackens_78 rfl rfl ?_
    refine xx_getr (fi := 0) C 82 rfl (by decide) (ceM_0 _ _ _) rfl in_X12 (by decide) rfl rfl w_1171 dX12_blackens_79 ?_
    refine xx_bipush C 84 rfl dX12_blackens_82 (by decide) ?_
    refine xx_iload_n C 85 rfl 1 dX12_blackens_84 rfl rfl ?_
    refine xx_iadd C 86 rfl dX12_blackens_85 ?_
    refine xx_iconst C 87 rfl dX12_blackens_86 ?_
    refine xx_iastore C 88 rfl (by decide) (fun _ => rfl) (by decide) dX12_blackens_87 h (fun μ87 h => ?_)
    refine xx_iconst C 89 rfl dX12_blackens_88 ?_
    refine xx_istore_n (lv1 := [(2, .int (iI 0)), (0, .ref (ad 0)), (1, .int (iI v7))]) C 90 rfl (by decide) dX12_blackens_89 rfl rfl ?_
    have L90 : ∀ (fu90 : Nat) (x2_90 : Int) (μ90 : mu_T), f_X12_blackens_L90 v7 fu90 x2_90 μ90 = some μr → wx_ G X 9 ad (ceM G ad) μ90 0 0 90 [(0, .ref (ad 0)), (1, .int (iI v7)), (2, .int (iI x2_90))] [] := by
      intro fu90
      induction fu90 with
      | zero => intro x2_90 μ90 h; exact nn_ h
      | succ fu90 K90 =>
        intro x2_90 μ90 h
        rw [f_X12_blackens_L90] at h
        generalize f_X12_blackens_L90 v7 fu90 = R90 at K90 h
        refine xx_iload_n C 91 rfl 2 dX12_blackens_90 rfl rfl ?_
        refine xx_iconst C 92 rfl dX12_blackens_91 ?_
        refine xx_icmp_ge (tgt := 115) C 95 rfl dX12_blackens_92 (by decide) h (fun h => ?_) (fun h => ?_)
        · exact xx_vret C E rfl ⟨Nat.le_of_ble_eq_true rfl, Nat.le_of_ble_eq_true rfl⟩ dX12_blackens_115 h
        · refine xx_aload_n C 96 rfl 0 dX12_blackens_95 rfl rfl ?_
          refine xx_aload_n C 97 rfl 0 dX12_blackens_96 rfl rfl ?_
          refine xx_getr (fi := 0) C 100 rfl (by decide) (ceM_0 _ _ _) rfl in_X12 (by decide) rfl rfl w_1171 dX12_blackens_97 ?_
          refine xx_iload_n C 101 rfl 1 dX12_blackens_100 rfl rfl ?_
          refine xx_iload_n C 102 rfl 2 dX12_blackens_101 rfl rfl ?_
          refine xx_cSip (As := [.int (iI v7), .int (iI x2_90)]) (st := [.ref (ad 1), .ref (ad 0)]) C 105 rfl  ca_X12_at cs_X12_at w_1168 rfl ⟨Nat.le_of_ble_eq_true rfl, Nat.le_of_ble_eq_true rfl⟩ ⟨Nat.le_of_ble_eq_true rfl, Nat.le_of_ble_eq_true rfl⟩ (Nat.le_of_ble_eq_true rfl) dX12_blackens_102 (fun v102 e9 => c_X12_at _ _ _ v102 e9) h (fun v102 h => ?_) rfl
          refine xx_iaload C 106 rfl (by decide) (fun _ => rfl) (by decide) dX12_blackens_105 h (fun v105 h => ?_)
          refine xx_cVv (As := [.int (iI v105)]) (st := []) (o := 0) C 109 rfl (by decide) (ceM_0 _ _ _) rfl rfl ca_X12_greysIfWhite cv_X12_greysIfWhite w_1279 rfl ⟨Nat.le_of_ble_eq_true rfl, Nat.le_of_ble_eq_true rfl⟩ ⟨Nat.le_of_ble_eq_true rfl, Nat.le_of_ble_eq_true rfl⟩ (Nat.le_of_ble_eq_true rfl) dX12_blackens_106 (fun μ106 e9 => c_X12_greysIfWhite _ _ μ106 e9) h (fun μ106 h => ?_) rfl
          refine xx_iincn C 112 rfl 2 (by decide) dX12_blackens_109 rfl h (fun n109 h => ?_)
          refine xx_lv (lv1 := [(2, .int (iI n109)), (0, .ref (ad 0)), (1, .int (iI v7))]) rfl ?_
          refine xx_goto C 90 dX12_blackens_112 (by decide) ?_
          refine xx_sub [1, 2, 0] rfl ?_
          exact K90 n109 μ106 h
    refine xx_sub [1, 2, 0] rfl ?_
    exact L90 _ _ _ h
  · have L22 : ∀ (fu22 : Nat) (x2_22 : Int) (μ22 : mu_T), f_X12_blackens_L22 J61 fu22 x2_22 μ22 = some μr → wx_ G X 9 ad (ceM G ad) μ22 0 0 22 [(0, .ref (ad 0)), (1, .int (iI v7)), (2, .int (iI x2_22))] [] := by
      intro fu22
      induction fu22 with
      | zero => intro x2_22 μ22 h; exact nn_ h
      | succ fu22 K22 =>
        intro x2_22 μ22 h
        rw [f_X12_blackens_L22] at h
        generalize f_X12_blackens_L22 J61 fu22 = R22 at K22 h
        refine xx_iload_n C 23 rfl 2 dX12_blackens_22 rfl rfl ?_
        refine xx_aload_n C 24 rfl 0 dX12_blackens_23 rfl rfl ?_
        refine xx_getr (fi := 0) C 27 rfl (by decide) (ceM_0 _ _ _) rfl in_X12 (by decide) rfl rfl w_1171 dX12_blackens_24 ?_
        refine xx_bipush C 29 rfl dX12_blackens_27 (by decide) ?_
        refine xx_iaload C 30 rfl (by decide) (fun _ => rfl) (by decide) dX12_blackens_29 h (fun v29 h => ?_)
        refine xx_icmp_ge (tgt := 61) C 33 rfl dX12_blackens_30 (by decide) h (fun h => ?_) (fun h => ?_)
        · refine xx_sub [0, 1] rfl ?_
          exact K61 μ22 h
        · refine xx_aload_n C 34 rfl 0 dX12_blackens_33 rfl rfl ?_
          refine xx_getr (fi := 0) C 37 rfl (by decide) (ceM_0 _ _ _) rfl in_X12 (by decide) rfl rfl w_1171 dX12_blackens_34 ?_
          refine xx_sipush C 40 rfl dX12_blackens_37 (by decide) ?_
          refine xx_iload_n C 41 rfl 2 dX12_blackens_40 rfl rfl ?_
          refine xx_iadd C 42 rfl dX12_blackens_41 ?_
          refine xx_aload_n C 43 rfl 0 dX12_blackens_42 rfl rfl ?_
          refine xx_getr (fi := 0) C 46 rfl (by decide) (ceM_0 _ _ _) rfl in_X12 (by decide) rfl rfl w_1171 dX12_blackens_43 ?_
          refine xx_sipush C 49 rfl dX12_blackens_46 (by decide) ?_
          refine xx_iload_n C 50 rfl 2 dX12_blackens_49 rfl rfl ?_
          refine xx_iadd C 51 rfl dX12_blackens_50 ?_
          refine xx_iconst C 52 rfl dX12_blackens_51 ?_
          refine xx_iadd C 53 rfl dX12_blackens_52 ?_
          refine xx_iaload C 54 rfl (by decide) (fun _ => rfl) (by decide) dX12_blackens_53 h (fun v53 h => ?_)
          refine xx_iastore C 55 rfl (by decide) (fun _ => rfl) (by decide) dX12_blackens_54 h (fun μ54 h => ?_)
          refine xx_iincn C 58 rfl 2 (by decide) dX12_blackens_55 rfl h (fun n55 h => ?_)
          refine xx_lv (lv1 := [(2, .int (iI n55)), (0, .ref (ad 0)), (1, .int (iI v7))]) rfl ?_
          refine xx_goto C 22 dX12_blackens_58 (by decide) ?_
          refine xx_sub [1, 2, 0] rfl ?_
          exact K22 n55 μ54 h
    refine xx_sub [2, 1, 0] rfl ?_
    exact L22 _ _ _ h

def f_X12_becomeDue_L4  : Nat → Int → Int → mu_T → Option (Int × mu_T)
  | 0, _, _, _ => none
  | fu4 + 1, x1_4, x2_4, μ4 => lt_ x2_4 24
      (rd_ μ4 1 293 (17 + x2_4) (fun v18 => jn_ (φ := Int → mu_T → Option (Int × mu_T)) (fun x1_95 μ95 => nm_ (x2_4 + 1) (fun n95 => (f_X12_becomeDue_L4 fu4) x1_95 n95 μ95))
      (fun J95 => eq_ v18 0
      (J95 x1_4 μ4)
      (rd_ μ4 1 293 (41 + x2_4) (fun v30 => eq_ v30 0
      (rd_ μ4 1 293 (65 + x2_4) (fun v42 => eq_ v42 1
      (wr_ μ4 1 293 (65 + x2_4) 2 (fun μ59 => rd_ μ59 1 293 9 (fun v73 => wr_ μ59 1 293 (257 + v73) x2_4 (fun μ76 => rd_ μ76 1 293 9 (fun v84 => wr_ μ76 1 293 9 (v84 + 1) (fun μ87 => bd_ (f_X12_greys μ87 x2_4) (fun μ90 => J95 1 μ90)))))))
      (J95 x1_4 μ4)))
      (J95 x1_4 μ4))))))
      (rz_ x1_4 μ4)
def f_X12_becomeDue (μ : mu_T)  : Option (Int × mu_T) :=
  f_X12_becomeDue_L4 20000 0 0 μ
set_option maxHeartbeats 4000000 in
set_option maxRecDepth 100000 in
theorem c_X12_becomeDue {G : gp_} {ad : Nat → Nat} (μ : mu_T)  (a : Int) (μr : mu_T) (h : f_X12_becomeDue μ  = some (a, μr)) : mi_ yX12_becomeDue cX12_becomeDue 3 (some .boolean) ({ frames := 1, cells := 0, slots := 0, locals := 21 } : Room) G 9 ad (ceM G ad) [.ref (ad 0)] μ a μr := by
  refine mi_in (own := "UrnHeapModel") (lv := [(0, .ref (ad 0))]) (by decide) rfl rfl (Nat.le_of_ble_eq_true rfl) (fun X C E => ?_)
  unfold f_X12_becomeDue at h
  refine xx_iconst C 1 rfl dX12_becomeDue_0 ?_
  refine xx_istore_n (lv1 := [(1, .int (iI 0)), (0, .ref (ad 0))]) C 2 rfl (by decide) dX12_becomeDue_1 rfl rfl ?_
  refine xx_iconst C 3 rfl dX12_becomeDue_2 ?_
  refine xx_istore_n (lv1 := [(2, .int (iI 0)), (1, .int (iI 0)), (0, .ref (ad 0))]) C 4 rfl (by decide) dX12_becomeDue_3 rfl rfl ?_
  have L4 : ∀ (fu4 : Nat) (x1_4 : Int) (x2_4 : Int) (μ4 : mu_T), f_X12_becomeDue_L4 fu4 x1_4 x2_4 μ4 = some (a, μr) → wx_ G X 9 ad (ceM G ad) μ4 0 0 4 [(0, .ref (ad 0)), (1, .int (iI x1_4)), (2, .int (iI x2_4))] [] := by
    intro fu4
    induction fu4 with
    | zero => intro x1_4 x2_4 μ4 h; exact nn_ h
    | succ fu4 K4 =>
      intro x1_4 x2_4 μ4 h
      rw [f_X12_becomeDue_L4] at h
      generalize f_X12_becomeDue_L4 fu4 = R4 at K4 h
      refine xx_iload_n C 5 rfl 2 dX12_becomeDue_4 rfl rfl ?_
      refine xx_bipush C 7 rfl dX12_becomeDue_5 (by decide) ?_
      refine xx_icmp_ge (tgt := 101) C 10 rfl dX12_becomeDue_7 (by decide) h (fun h => ?_) (fun h => ?_)
      · refine xx_iload_n C 102 rfl 1 dX12_becomeDue_101 rfl rfl ?_
        exact xx_zretz C E rfl ⟨Nat.le_of_ble_eq_true rfl, Nat.le_of_ble_eq_true rfl⟩ dX12_becomeDue_102 h
      · refine xx_aload_n C 11 rfl 0 dX12_becomeDue_10 rfl rfl ?_
        refine xx_getr (fi := 0) C 14 rfl (by decide) (ceM_0 _ _ _) rfl in_X12 (by decide) rfl rfl w_1171 dX12_becomeDue_11 ?_
        refine xx_bipush C 16 rfl dX12_becomeDue_14 (by decide) ?_
        refine xx_iload_n C 17 rfl 2 dX12_becomeDue_16 rfl rfl ?_
        refine xx_iadd C 18 rfl dX12_becomeDue_17 ?_
        refine xx_iaload C 19 rfl (by decide) (fun _ => rfl) (by decide) dX12_becomeDue_18 h (fun v18 h => ?_)
        refine jn_r (fun J => ∀ (x1_95 : Int) (μ95 : mu_T), J x1_95 μ95 = some (a, μr) → wx_ G X 9 ad (ceM G ad) μ95 0 0 95 [(0, .ref (ad 0)), (1, .int (iI x1_95)), (2, .int (iI x2_4))] []) h (fun x1_95 μ95 h => ?_) (fun J95 K95 h => ?_)
        · refine xx_iincn C 98 rfl 2 (by decide) dX12_becomeDue_95 rfl h (fun n95 h => ?_)
          refine xx_lv (lv1 := [(2, .int (iI n95)), (0, .ref (ad 0)), (1, .int (iI x1_95))]) rfl ?_
          refine xx_goto C 4 dX12_becomeDue_98 (by decide) ?_
          refine xx_sub [1, 2, 0] rfl ?_
          exact K4 x1_95 n95 μ95 h
        · refine xx_if_eq (tgt := 95) C 22 rfl dX12_becomeDue_19 (by decide) h (fun h => ?_) (fun h => ?_)
          · exact K95 x1_4 μ4 h
          · refine xx_aload_n C 23 rfl 0 dX12_becomeDue_22 rfl rfl ?_
            refine xx_getr (fi := 0) C 26 rfl (by decide) (ceM_0 _ _ _) rfl in_X12 (by decide) rfl rfl w_1171 dX12_becomeDue_23 ?_
            refine xx_bipush C 28 rfl dX12_becomeDue_26 (by decide) ?_
            refine xx_iload_n C 29 rfl 2 dX12_becomeDue_28 rfl rfl ?_
            refine xx_iadd C 30 rfl dX12_becomeDue_29 ?_
            refine xx_iaload C 31 rfl (by decide) (fun _ => rfl) (by decide) dX12_becomeDue_30 h (fun v30 h => ?_)
            refine xx_if_ne (tgt := 95) C 34 rfl dX12_becomeDue_31 (by decide) h (fun h => ?_) (fun h => ?_)
            · exact K95 x1_4 μ4 h
            · refine xx_aload_n C 35 rfl 0 dX12_becomeDue_34 rfl rfl ?_
              refine xx_getr (fi := 0) C 38 rfl (by decide) (ceM_0 _ _ _) rfl in_X12 (by decide) rfl rfl w_1171 dX12_becomeDue_35 ?_
              refine xx_bipush C 40 rfl dX12_becomeDue_38 (by decide) ?_
              refine xx_iload_n C 41 rfl 2 dX12_becomeDue_40 rfl rfl ?_
              refine xx_iadd C 42 rfl dX12_becomeDue_41 ?_
              refine xx_iaload C 43 rfl (by decide) (fun _ => rfl) (by decide) dX12_becomeDue_42 h (fun v42 h => ?_)
              refine xx_iconst C 44 rfl dX12_becomeDue_43 ?_
              refine xx_icmp_eq (tgt := 50) C 47 rfl dX12_becomeDue_44 (by decide) h (fun h => ?_) (fun h => ?_)
              · refine xx_aload_n C 51 rfl 0 dX12_becomeDue_50 rfl rfl ?_
                refine xx_getr (fi := 0) C 54 rfl (by decide) (ceM_0 _ _ _) rfl in_X12 (by decide) rfl rfl w_1171 dX12_becomeDue_51 ?_
                refine xx_bipush C 56 rfl dX12_becomeDue_54 (by decide) ?_
                refine xx_iload_n C 57 rfl 2 dX12_becomeDue_56 rfl rfl ?_
                refine xx_iadd C 58 rfl dX12_becomeDue_57 ?_
                refine xx_iconst C 59 rfl dX12_becomeDue_58 ?_
                refine xx_iastore C 60 rfl (by decide) (fun _ => rfl) (by decide) dX12_becomeDue_59 h (fun μ59 h => ?_)
                refine xx_aload_n C 61 rfl 0 dX12_becomeDue_60 rfl rfl ?_
                refine xx_getr (fi := 0) C 64 rfl (by decide) (ceM_0 _ _ _) rfl in_X12 (by decide) rfl rfl w_1171 dX12_becomeDue_61 ?_
                refine xx_sipush C 67 rfl dX12_becomeDue_64 (by decide) ?_
                refine xx_aload_n C 68 rfl 0 dX12_becomeDue_67 rfl rfl ?_
                refine xx_getr (fi := 0) C 71 rfl (by decide) (ceM_0 _ _ _) rfl in_X12 (by decide) rfl rfl w_1171 dX12_becomeDue_68 ?_
                refine xx_bipush C 73 rfl dX12_becomeDue_71 (by decide) ?_
                refine xx_iaload C 74 rfl (by decide) (fun _ => rfl) (by decide) dX12_becomeDue_73 h (fun v73 h => ?_)
                refine xx_iadd C 75 rfl dX12_becomeDue_74 ?_
                refine xx_iload_n C 76 rfl 2 dX12_becomeDue_75 rfl rfl ?_
                refine xx_iastore C 77 rfl (by decide) (fun _ => rfl) (by decide) dX12_becomeDue_76 h (fun μ76 h => ?_)
                refine xx_aload_n C 78 rfl 0 dX12_becomeDue_77 rfl rfl ?_
                refine xx_getr (fi := 0) C 81 rfl (by decide) (ceM_0 _ _ _) rfl in_X12 (by decide) rfl rfl w_1171 dX12_becomeDue_78 ?_
                refine xx_bipush C 83 rfl dX12_becomeDue_81 (by decide) ?_
                refine xx_dup2 C 84 rfl dX12_becomeDue_83 rfl rfl ?_
                refine xx_iaload C 85 rfl (by decide) (fun _ => rfl) (by decide) dX12_becomeDue_84 h (fun v84 h => ?_)
                refine xx_iconst C 86 rfl dX12_becomeDue_85 ?_
                refine xx_iadd C 87 rfl dX12_becomeDue_86 ?_
                refine xx_iastore C 88 rfl (by decide) (fun _ => rfl) (by decide) dX12_becomeDue_87 h (fun μ87 h => ?_)
                refine xx_aload_n C 89 rfl 0 dX12_becomeDue_88 rfl rfl ?_
                refine xx_iload_n C 90 rfl 2 dX12_becomeDue_89 rfl rfl ?_
                refine xx_cVv (As := [.int (iI x2_4)]) (st := []) (o := 0) C 93 rfl (by decide) (ceM_0 _ _ _) rfl rfl ca_X12_greys cv_X12_greys w_1283 rfl ⟨Nat.le_of_ble_eq_true rfl, Nat.le_of_ble_eq_true rfl⟩ ⟨Nat.le_of_ble_eq_true rfl, Nat.le_of_ble_eq_true rfl⟩ (Nat.le_of_ble_eq_true rfl) dX12_becomeDue_90 (fun μ90 e9 => c_X12_greys _ _ μ90 e9) h (fun μ90 h => ?_) rfl
                refine xx_iconst C 94 rfl dX12_becomeDue_93 ?_
                refine xx_istore_n (lv1 := [(1, .int (iI 1)), (0, .ref (ad 0)), (2, .int (iI x2_4))]) C 95 rfl (by decide) dX12_becomeDue_94 rfl rfl ?_
                refine xx_sub [1, 0, 2] rfl ?_
                exact K95 1 μ90 h
              · refine xx_goto C 95 dX12_becomeDue_47 (by decide) ?_
                exact K95 x1_4 μ4 h
  refine xx_sub [2, 1, 0] rfl ?_
  exact L4 _ _ _ _ h

def f_X12_cutsWeak_L2 (J67 : mu_T → Option mu_T) : Nat → Int → mu_T → Option mu_T
  | 0, _, _ => none
  | fu2 + 1, x1_2, μ2 => lt_ x1_2 24
      (rd_ μ2 1 293 (113 + x1_2) (fun v16 => jn_ (φ := mu_T → Option mu_T) (fun μ61 => nm_ (x1_2 + 1) (fun n61 => (f_X12_cutsWeak_L2 J67 fu2) n61 μ61))
      (fun J61 => eq_ v16 (-15)
      (J61 μ2)
      (rd_ μ2 1 293 (41 + v16) (fun v32 => eq_ v32 0
      (wr_ μ2 1 293 (113 + x1_2) (-15) (fun μ49 => rd_ μ49 1 293 6 (fun v57 => wr_ μ49 1 293 6 (v57 + 1) (fun μ60 => J61 μ60))))
      (J61 μ2))))))
      (J67 μ2)
def f_X12_cutsWeak (μ : mu_T)  : Option mu_T :=
  jn_ (φ := mu_T → Option mu_T) (fun μ67 => wr_ μ67 1 293 0 2 (fun μ73 => wr_ μ73 1 293 1 0 (fun μ80 => some μ80)))
      (fun J67 => f_X12_cutsWeak_L2 J67 20000 0 μ)
set_option maxHeartbeats 4000000 in
set_option maxRecDepth 100000 in
theorem c_X12_cutsWeak {G : gp_} {ad : Nat → Nat} (μ : mu_T)  (μr : mu_T) (h : f_X12_cutsWeak μ  = some μr) : mv_ yX12_cutsWeak cX12_cutsWeak 3 ({ frames := 0, cells := 0, slots := 0, locals := 0 } : Room) G 9 ad (ceM G ad) [.ref (ad 0)] μ μr := by
  refine mv_in (own := "UrnHeapModel") (lv := [(0, .ref (ad 0))]) (by decide) rfl rfl (Nat.le_of_ble_eq_true rfl) (fun X C E => ?_)
  unfold f_X12_cutsWeak at h
  refine xx_iconst C 1 rfl dX12_cutsWeak_0 ?_
  refine xx_istore_n (lv1 := [(1, .int (iI 0)), (0, .ref (ad 0))]) C 2 rfl (by decide) dX12_cutsWeak_1 rfl rfl ?_
  refine jn_r (fun J => ∀ (μ67 : mu_T), J μ67 = some μr → wx_ G X 9 ad (ceM G ad) μ67 0 0 67 [(0, .ref (ad 0))] []) h (fun μ67 h => ?_) (fun J67 K67 h => ?_)
  · refine xx_aload_n C 68 rfl 0 dX12_cutsWeak_67 rfl rfl ?_
    refine xx_getr (fi := 0) C 71 rfl (by decide) (ceM_0 _ _ _) rfl in_X12 (by decide) rfl rfl w_1171 dX12_cutsWeak_68 ?_
    refine xx_iconst C 72 rfl dX12_cutsWeak_71 ?_
    refine xx_iconst C 73 rfl dX12_cutsWeak_72 ?_
    refine xx_iastore C 74 rfl (by decide) (fun _ => rfl) (by decide) dX12_cutsWeak_73 h (fun μ73 h => ?_)
    refine xx_aload_n C 75 rfl 0 dX12_cutsWeak_74 rfl rfl ?_
    refine xx_getr (fi := 0) C 78 rfl (by decide) (ceM_0 _ _ _) rfl in_X12 (by decide) rfl rfl w_1171 dX12_cutsWeak_75 ?_
    refine xx_iconst C 79 rfl dX12_cutsWeak_78 ?_
    refine xx_iconst C 80 rfl dX12_cutsWeak_79 ?_
    refine xx_iastore C 81 rfl (by decide) (fun _ => rfl) (by decide) dX12_cutsWeak_80 h (fun μ80 h => ?_)
    exact xx_vret C E rfl ⟨Nat.le_of_ble_eq_true rfl, Nat.le_of_ble_eq_true rfl⟩ dX12_cutsWeak_81 h
  · have L2 : ∀ (fu2 : Nat) (x1_2 : Int) (μ2 : mu_T), f_X12_cutsWeak_L2 J67 fu2 x1_2 μ2 = some μr → wx_ G X 9 ad (ceM G ad) μ2 0 0 2 [(0, .ref (ad 0)), (1, .int (iI x1_2))] [] := by
      intro fu2
      induction fu2 with
      | zero => intro x1_2 μ2 h; exact nn_ h
      | succ fu2 K2 =>
        intro x1_2 μ2 h
        rw [f_X12_cutsWeak_L2] at h
        generalize f_X12_cutsWeak_L2 J67 fu2 = R2 at K2 h
        refine xx_iload_n C 3 rfl 1 dX12_cutsWeak_2 rfl rfl ?_
        refine xx_bipush C 5 rfl dX12_cutsWeak_3 (by decide) ?_
        refine xx_icmp_ge (tgt := 67) C 8 rfl dX12_cutsWeak_5 (by decide) h (fun h => ?_) (fun h => ?_)
        · refine xx_sub [0] rfl ?_
          exact K67 μ2 h
        · refine xx_aload_n C 9 rfl 0 dX12_cutsWeak_8 rfl rfl ?_
          refine xx_getr (fi := 0) C 12 rfl (by decide) (ceM_0 _ _ _) rfl in_X12 (by decide) rfl rfl w_1171 dX12_cutsWeak_9 ?_
          refine xx_bipush C 14 rfl dX12_cutsWeak_12 (by decide) ?_
          refine xx_iload_n C 15 rfl 1 dX12_cutsWeak_14 rfl rfl ?_
          refine xx_iadd C 16 rfl dX12_cutsWeak_15 ?_
          refine xx_iaload C 17 rfl (by decide) (fun _ => rfl) (by decide) dX12_cutsWeak_16 h (fun v16 h => ?_)
          refine xx_istore_n (lv1 := [(2, .int (iI v16)), (0, .ref (ad 0)), (1, .int (iI x1_2))]) C 18 rfl (by decide) dX12_cutsWeak_17 rfl rfl ?_
          refine xx_iload_n C 19 rfl 0 dX12_cutsWeak_18 rfl rfl ?_
          refine xx_bipush C 21 rfl dX12_cutsWeak_19 (by decide) ?_
          refine jn_r (fun J => ∀ (μ61 : mu_T), J μ61 = some μr → wx_ G X 9 ad (ceM G ad) μ61 0 0 61 [(0, .ref (ad 0)), (1, .int (iI x1_2))] []) h (fun μ61 h => ?_) (fun J61 K61 h => ?_)
          · refine xx_iincn C 64 rfl 1 (by decide) dX12_cutsWeak_61 rfl h (fun n61 h => ?_)
            refine xx_lv (lv1 := [(1, .int (iI n61)), (0, .ref (ad 0))]) rfl ?_
            refine xx_goto C 2 dX12_cutsWeak_64 (by decide) ?_
            refine xx_sub [1, 0] rfl ?_
            exact K2 n61 μ61 h
          · refine xx_icmp_eq (tgt := 61) C 24 rfl dX12_cutsWeak_21 (by decide) h (fun h => ?_) (fun h => ?_)
            · refine xx_sub [1, 2] rfl ?_
              exact K61 μ2 h
            · refine xx_aload_n C 25 rfl 1 dX12_cutsWeak_24 rfl rfl ?_
              refine xx_getr (fi := 0) C 28 rfl (by decide) (ceM_0 _ _ _) rfl in_X12 (by decide) rfl rfl w_1171 dX12_cutsWeak_25 ?_
              refine xx_bipush C 30 rfl dX12_cutsWeak_28 (by decide) ?_
              refine xx_iload_n C 31 rfl 0 dX12_cutsWeak_30 rfl rfl ?_
              refine xx_iadd C 32 rfl dX12_cutsWeak_31 ?_
              refine xx_iaload C 33 rfl (by decide) (fun _ => rfl) (by decide) dX12_cutsWeak_32 h (fun v32 h => ?_)
              refine xx_if_eq (tgt := 39) C 36 rfl dX12_cutsWeak_33 (by decide) h (fun h => ?_) (fun h => ?_)
              · refine xx_aload_n C 40 rfl 1 dX12_cutsWeak_39 rfl rfl ?_
                refine xx_getr (fi := 0) C 43 rfl (by decide) (ceM_0 _ _ _) rfl in_X12 (by decide) rfl rfl w_1171 dX12_cutsWeak_40 ?_
                refine xx_bipush C 45 rfl dX12_cutsWeak_43 (by decide) ?_
                refine xx_iload_n C 46 rfl 2 dX12_cutsWeak_45 rfl rfl ?_
                refine xx_iadd C 47 rfl dX12_cutsWeak_46 ?_
                refine xx_bipush C 49 rfl dX12_cutsWeak_47 (by decide) ?_
                refine xx_iastore C 50 rfl (by decide) (fun _ => rfl) (by decide) dX12_cutsWeak_49 h (fun μ49 h => ?_)
                refine xx_aload_n C 51 rfl 1 dX12_cutsWeak_50 rfl rfl ?_
                refine xx_getr (fi := 0) C 54 rfl (by decide) (ceM_0 _ _ _) rfl in_X12 (by decide) rfl rfl w_1171 dX12_cutsWeak_51 ?_
                refine xx_bipush C 56 rfl dX12_cutsWeak_54 (by decide) ?_
                refine xx_dup2 C 57 rfl dX12_cutsWeak_56 rfl rfl ?_
                refine xx_iaload C 58 rfl (by decide) (fun _ => rfl) (by decide) dX12_cutsWeak_57 h (fun v57 h => ?_)
                refine xx_iconst C 59 rfl dX12_cutsWeak_58 ?_
                refine xx_iadd C 60 rfl dX12_cutsWeak_59 ?_
                refine xx_iastore C 61 rfl (by decide) (fun _ => rfl) (by decide) dX12_cutsWeak_60 h (fun μ60 h => ?_)
                refine xx_sub [1, 2] rfl ?_
                exact K61 μ60 h
              · refine xx_goto C 61 dX12_cutsWeak_36 (by decide) ?_
                refine xx_sub [1, 2] rfl ?_
                exact K61 μ2 h
    refine xx_sub [1, 0] rfl ?_
    exact L2 _ _ _ h

def f_X12_frees_L85 (J117 : mu_T → Option mu_T) : Nat → Int → mu_T → Option mu_T
  | 0, _, _ => none
  | fu85 + 1, x2_85, μ85 => lt_ 0 x2_85
      (rd_ μ85 1 293 ((281 + x2_85) - 1) (fun v109 => wr_ μ85 1 293 (281 + x2_85) v109 (fun μ110 => nm_ (x2_85 + (-1)) (fun n111 => (f_X12_frees_L85 J117 fu85) n111 μ110))))
      (J117 μ85)
def f_X12_frees_L39 (J76 : mu_T → Option mu_T) (a1 : Int) (x2_7 : Int) : Nat → Int → mu_T → Option mu_T
  | 0, _, _ => none
  | fu39 + 1, x3_39, μ39 => lt_ x3_39 4
      (bd_ (f_X12_at μ39 x2_7 x3_39) (fun v50 => rd_ μ39 1 293 v50 (fun v53 => jn_ (φ := mu_T → Option mu_T) (fun μ70 => nm_ (x3_39 + 1) (fun n70 => (f_X12_frees_L39 J76 a1 x2_7 fu39) n70 μ70))
      (fun J70 => eq_ v53 a1
      (bd_ (f_X12_at μ39 x2_7 x3_39) (fun v64 => wr_ μ39 1 293 v64 (-15) (fun μ69 => J70 μ69)))
      (J70 μ39)))))
      (J76 μ39)
def f_X12_frees_L7 (J82 : mu_T → Option mu_T) (a1 : Int) : Nat → Int → mu_T → Option mu_T
  | 0, _, _ => none
  | fu7 + 1, x2_7, μ7 => lt_ x2_7 24
      (rd_ μ7 1 293 (113 + x2_7) (fun v21 => jn_ (φ := mu_T → Option mu_T) (fun μ37 => jn_ (φ := mu_T → Option mu_T) (fun μ76 => nm_ (x2_7 + 1) (fun n76 => (f_X12_frees_L7 J82 a1 fu7) n76 μ76))
      (fun J76 => f_X12_frees_L39 J76 a1 x2_7 20000 0 μ37))
      (fun J37 => eq_ v21 a1
      (wr_ μ7 1 293 (113 + x2_7) (-15) (fun μ36 => J37 μ36))
      (J37 μ7))))
      (J82 μ7)
def f_X12_frees (μ : mu_T) (a1 : Int) : Option mu_T :=
  bd_ (f_X12_empties μ a1) (fun μ2 => jn_ (φ := mu_T → Option mu_T) (fun μ82 => jn_ (φ := mu_T → Option mu_T) (fun μ117 => wr_ μ117 1 293 281 a1 (fun μ125 => rd_ μ125 1 293 10 (fun v133 => rd_ μ125 1 293 10 (fun v140 => jn_ (φ := Int → Option mu_T) (fun s0_151 => wr_ μ125 1 293 10 (v133 + s0_151) (fun μ152 => rd_ μ152 1 293 4 (fun v159 => wr_ μ152 1 293 4 (v159 + 1) (fun μ162 => some μ162))))
      (fun J151 => lt_ v140 12
      (J151 1)
      (J151 0))))))
      (fun J117 => f_X12_frees_L85 J117 20000 11 μ82))
      (fun J82 => f_X12_frees_L7 J82 a1 20000 0 μ2))
set_option maxHeartbeats 4000000 in
set_option maxRecDepth 100000 in
theorem c_X12_frees {G : gp_} {ad : Nat → Nat} (μ : mu_T) (a1 : Int) (μr : mu_T) (h : f_X12_frees μ a1 = some μr) : mv_ yX12_frees cX12_frees 4 ({ frames := 2, cells := 0, slots := 0, locals := 43 } : Room) G 9 ad (ceM G ad) [.ref (ad 0), .int (iI a1)] μ μr := by
  refine mv_in (own := "UrnHeapModel") (lv := [(0, .ref (ad 0)), (1, .int (iI a1))]) (by decide) rfl rfl (Nat.le_of_ble_eq_true rfl) (fun X C E => ?_)
  unfold f_X12_frees at h
  refine xx_aload_n C 1 rfl 0 dX12_frees_0 rfl rfl ?_
  refine xx_iload_n C 2 rfl 1 dX12_frees_1 rfl rfl ?_
  refine xx_cVv (As := [.int (iI a1)]) (st := []) (o := 0) C 5 rfl (by decide) (ceM_0 _ _ _) rfl rfl ca_X12_empties cv_X12_empties w_1164 rfl ⟨Nat.le_of_ble_eq_true rfl, Nat.le_of_ble_eq_true rfl⟩ ⟨Nat.le_of_ble_eq_true rfl, Nat.le_of_ble_eq_true rfl⟩ (Nat.le_of_ble_eq_true rfl) dX12_frees_2 (fun μ2 e9 => c_X12_empties _ _ μ2 e9) h (fun μ2 h => ?_) rfl
  refine xx_iconst C 6 rfl dX12_frees_5 ?_
  refine xx_istore_n (lv1 := [(2, .int (iI 0)), (0, .ref (ad 0)), (1, .int (iI a1))]) C 7 rfl (by decide) dX12_frees_6 rfl rfl ?_
  refine jn_r (fun J => ∀ (μ82 : mu_T), J μ82 = some μr → wx_ G X 9 ad (ceM G ad) μ82 0 0 82 [(0, .ref (ad 0)), (1, .int (iI a1))] []) h (fun μ82 h => ?_) (fun J82 K82 h => ?_)
  · refine xx_bipush C 84 rfl dX12_frees_82 (by decide) ?_
    refine xx_istore_n (lv1 := [(2, .int (iI 11)), (0, .ref (ad 0)), (1, .int (iI a1))]) C 85 rfl (by decide) dX12_frees_84 rfl rfl ?_
    refine jn_r (fun J => ∀ (μ117 : mu_T), J μ117 = some μr → wx_ G X 9 ad (ceM G ad) μ117 0 0 117 [(0, .ref (ad 0)), (1, .int (iI a1))] []) h (fun μ117 h => ?_) (fun J117 K117 h => ?_)
    · refine xx_aload_n C 118 rfl 0 dX12_frees_117 rfl rfl ?_
      refine xx_getr (fi := 0) C 121 rfl (by decide) (ceM_0 _ _ _) rfl in_X12 (by decide) rfl rfl w_1171 dX12_frees_118 ?_
      refine xx_sipush C 124 rfl dX12_frees_121 (by decide) ?_
      refine xx_iload_n C 125 rfl 1 dX12_frees_124 rfl rfl ?_
      refine xx_iastore C 126 rfl (by decide) (fun _ => rfl) (by decide) dX12_frees_125 h (fun μ125 h => ?_)
      refine xx_aload_n C 127 rfl 0 dX12_frees_126 rfl rfl ?_
      refine xx_getr (fi := 0) C 130 rfl (by decide) (ceM_0 _ _ _) rfl in_X12 (by decide) rfl rfl w_1171 dX12_frees_127 ?_
      refine xx_bipush C 132 rfl dX12_frees_130 (by decide) ?_
      refine xx_dup2 C 133 rfl dX12_frees_132 rfl rfl ?_
      refine xx_iaload C 134 rfl (by decide) (fun _ => rfl) (by decide) dX12_frees_133 h (fun v133 h => ?_)
      refine xx_aload_n C 135 rfl 0 dX12_frees_134 rfl rfl ?_
      refine xx_getr (fi := 0) C 138 rfl (by decide) (ceM_0 _ _ _) rfl in_X12 (by decide) rfl rfl w_1171 dX12_frees_135 ?_
      refine xx_bipush C 140 rfl dX12_frees_138 (by decide) ?_
      refine xx_iaload C 141 rfl (by decide) (fun _ => rfl) (by decide) dX12_frees_140 h (fun v140 h => ?_)
      refine xx_bipush C 143 rfl dX12_frees_141 (by decide) ?_
      refine jn_r (fun J => ∀ (s0_151 : Int), J s0_151 = some μr → wx_ G X 9 ad (ceM G ad) μ125 0 0 151 [(0, .ref (ad 0))] [.int (iI s0_151), .int (iI v133), .int (iI 10), .ref (ad 1)]) h (fun s0_151 h => ?_) (fun J151 K151 h => ?_)
      · refine xx_iadd C 152 rfl dX12_frees_151 ?_
        refine xx_iastore C 153 rfl (by decide) (fun _ => rfl) (by decide) dX12_frees_152 h (fun μ152 h => ?_)
        refine xx_aload_n C 154 rfl 0 dX12_frees_153 rfl rfl ?_
        refine xx_getr (fi := 0) C 157 rfl (by decide) (ceM_0 _ _ _) rfl in_X12 (by decide) rfl rfl w_1171 dX12_frees_154 ?_
        refine xx_iconst C 158 rfl dX12_frees_157 ?_
        refine xx_dup2 C 159 rfl dX12_frees_158 rfl rfl ?_
        refine xx_iaload C 160 rfl (by decide) (fun _ => rfl) (by decide) dX12_frees_159 h (fun v159 h => ?_)
        refine xx_iconst C 161 rfl dX12_frees_160 ?_
        refine xx_iadd C 162 rfl dX12_frees_161 ?_
        refine xx_iastore C 163 rfl (by decide) (fun _ => rfl) (by decide) dX12_frees_162 h (fun μ162 h => ?_)
        exact xx_vret C E rfl ⟨Nat.le_of_ble_eq_true rfl, Nat.le_of_ble_eq_true rfl⟩ dX12_frees_163 h
      · refine xx_icmp_ge (tgt := 150) C 146 rfl dX12_frees_143 (by decide) h (fun h => ?_) (fun h => ?_)
        · refine xx_iconst C 151 rfl dX12_frees_150 ?_
          refine xx_sub [0] rfl ?_
          exact K151 0 h
        · refine xx_iconst C 147 rfl dX12_frees_146 ?_
          refine xx_goto C 151 dX12_frees_147 (by decide) ?_
          refine xx_sub [0] rfl ?_
          exact K151 1 h
    · have L85 : ∀ (fu85 : Nat) (x2_85 : Int) (μ85 : mu_T), f_X12_frees_L85 J117 fu85 x2_85 μ85 = some μr → wx_ G X 9 ad (ceM G ad) μ85 0 0 85 [(0, .ref (ad 0)), (1, .int (iI a1)), (2, .int (iI x2_85))] [] := by
        intro fu85
        induction fu85 with
        | zero => intro x2_85 μ85 h; exact nn_ h
        | succ fu85 K85 =>
          intro x2_85 μ85 h
          rw [f_X12_frees_L85] at h
          generalize f_X12_frees_L85 J117 fu85 = R85 at K85 h
          refine xx_iload_n C 86 rfl 2 dX12_frees_85 rfl rfl ?_
          refine xx_if_le (tgt := 117) C 89 rfl dX12_frees_86 (by decide) h (fun h => ?_) (fun h => ?_)
          · refine xx_sub [0, 1] rfl ?_
            exact K117 μ85 h
          · refine xx_aload_n C 90 rfl 0 dX12_frees_89 rfl rfl ?_
            refine xx_getr (fi := 0) C 93 rfl (by decide) (ceM_0 _ _ _) rfl in_X12 (by decide) rfl rfl w_1171 dX12_frees_90 ?_
            refine xx_sipush C 96 rfl dX12_frees_93 (by decide) ?_
            refine xx_iload_n C 97 rfl 2 dX12_frees_96 rfl rfl ?_
            refine xx_iadd C 98 rfl dX12_frees_97 ?_
            refine xx_aload_n C 99 rfl 0 dX12_frees_98 rfl rfl ?_
            refine xx_getr (fi := 0) C 102 rfl (by decide) (ceM_0 _ _ _) rfl in_X12 (by decide) rfl rfl w_1171 dX12_frees_99 ?_
            refine xx_sipush C 105 rfl dX12_frees_102 (by decide) ?_
            refine xx_iload_n C 106 rfl 2 dX12_frees_105 rfl rfl ?_
            refine xx_iadd C 107 rfl dX12_frees_106 ?_
            refine xx_iconst C 108 rfl dX12_frees_107 ?_
            refine xx_isub C 109 rfl dX12_frees_108 ?_
            refine xx_iaload C 110 rfl (by decide) (fun _ => rfl) (by decide) dX12_frees_109 h (fun v109 h => ?_)
            refine xx_iastore C 111 rfl (by decide) (fun _ => rfl) (by decide) dX12_frees_110 h (fun μ110 h => ?_)
            refine xx_iincn C 114 rfl 2 (by decide) dX12_frees_111 rfl h (fun n111 h => ?_)
            refine xx_lv (lv1 := [(2, .int (iI n111)), (0, .ref (ad 0)), (1, .int (iI a1))]) rfl ?_
            refine xx_goto C 85 dX12_frees_114 (by decide) ?_
            refine xx_sub [1, 2, 0] rfl ?_
            exact K85 n111 μ110 h
      refine xx_sub [1, 2, 0] rfl ?_
      exact L85 _ _ _ h
  · have L7 : ∀ (fu7 : Nat) (x2_7 : Int) (μ7 : mu_T), f_X12_frees_L7 J82 a1 fu7 x2_7 μ7 = some μr → wx_ G X 9 ad (ceM G ad) μ7 0 0 7 [(0, .ref (ad 0)), (1, .int (iI a1)), (2, .int (iI x2_7))] [] := by
      intro fu7
      induction fu7 with
      | zero => intro x2_7 μ7 h; exact nn_ h
      | succ fu7 K7 =>
        intro x2_7 μ7 h
        rw [f_X12_frees_L7] at h
        generalize f_X12_frees_L7 J82 a1 fu7 = R7 at K7 h
        refine xx_iload_n C 8 rfl 2 dX12_frees_7 rfl rfl ?_
        refine xx_bipush C 10 rfl dX12_frees_8 (by decide) ?_
        refine xx_icmp_ge (tgt := 82) C 13 rfl dX12_frees_10 (by decide) h (fun h => ?_) (fun h => ?_)
        · refine xx_sub [0, 1] rfl ?_
          exact K82 μ7 h
        · refine xx_aload_n C 14 rfl 0 dX12_frees_13 rfl rfl ?_
          refine xx_getr (fi := 0) C 17 rfl (by decide) (ceM_0 _ _ _) rfl in_X12 (by decide) rfl rfl w_1171 dX12_frees_14 ?_
          refine xx_bipush C 19 rfl dX12_frees_17 (by decide) ?_
          refine xx_iload_n C 20 rfl 2 dX12_frees_19 rfl rfl ?_
          refine xx_iadd C 21 rfl dX12_frees_20 ?_
          refine xx_iaload C 22 rfl (by decide) (fun _ => rfl) (by decide) dX12_frees_21 h (fun v21 h => ?_)
          refine xx_iload_n C 23 rfl 1 dX12_frees_22 rfl rfl ?_
          refine jn_r (fun J => ∀ (μ37 : mu_T), J μ37 = some μr → wx_ G X 9 ad (ceM G ad) μ37 0 0 37 [(0, .ref (ad 0)), (1, .int (iI a1)), (2, .int (iI x2_7))] []) h (fun μ37 h => ?_) (fun J37 K37 h => ?_)
          · refine xx_iconst C 38 rfl dX12_frees_37 ?_
            refine xx_istore_n (lv1 := [(3, .int (iI 0)), (0, .ref (ad 0)), (1, .int (iI a1)), (2, .int (iI x2_7))]) C 39 rfl (by decide) dX12_frees_38 rfl rfl ?_
            refine jn_r (fun J => ∀ (μ76 : mu_T), J μ76 = some μr → wx_ G X 9 ad (ceM G ad) μ76 0 0 76 [(0, .ref (ad 0)), (1, .int (iI a1)), (2, .int (iI x2_7))] []) h (fun μ76 h => ?_) (fun J76 K76 h => ?_)
            · refine xx_iincn C 79 rfl 2 (by decide) dX12_frees_76 rfl h (fun n76 h => ?_)
              refine xx_lv (lv1 := [(2, .int (iI n76)), (0, .ref (ad 0)), (1, .int (iI a1))]) rfl ?_
              refine xx_goto C 7 dX12_frees_79 (by decide) ?_
              refine xx_sub [1, 2, 0] rfl ?_
              exact K7 n76 μ76 h
            · have L39 : ∀ (fu39 : Nat) (x3_39 : Int) (μ39 : mu_T), f_X12_frees_L39 J76 a1 x2_7 fu39 x3_39 μ39 = some μr → wx_ G X 9 ad (ceM G ad) μ39 0 0 39 [(0, .ref (ad 0)), (1, .int (iI a1)), (2, .int (iI x2_7)), (3, .int (iI x3_39))] [] := by
                intro fu39
                induction fu39 with
                | zero => intro x3_39 μ39 h; exact nn_ h
                | succ fu39 K39 =>
                  intro x3_39 μ39 h
                  rw [f_X12_frees_L39] at h
                  generalize f_X12_frees_L39 J76 a1 x2_7 fu39 = R39 at K39 h
                  refine xx_iload_n C 40 rfl 3 dX12_frees_39 rfl rfl ?_
                  refine xx_iconst C 41 rfl dX12_frees_40 ?_
                  refine xx_icmp_ge (tgt := 76) C 44 rfl dX12_frees_41 (by decide) h (fun h => ?_) (fun h => ?_)
                  · refine xx_sub [0, 1, 2] rfl ?_
                    exact K76 μ39 h
                  · refine xx_aload_n C 45 rfl 0 dX12_frees_44 rfl rfl ?_
                    refine xx_getr (fi := 0) C 48 rfl (by decide) (ceM_0 _ _ _) rfl in_X12 (by decide) rfl rfl w_1171 dX12_frees_45 ?_
                    refine xx_iload_n C 49 rfl 2 dX12_frees_48 rfl rfl ?_
                    refine xx_iload_n C 50 rfl 3 dX12_frees_49 rfl rfl ?_
                    refine xx_cSip (As := [.int (iI x2_7), .int (iI x3_39)]) (st := [.ref (ad 1)]) C 53 rfl  ca_X12_at cs_X12_at w_1168 rfl ⟨Nat.le_of_ble_eq_true rfl, Nat.le_of_ble_eq_true rfl⟩ ⟨Nat.le_of_ble_eq_true rfl, Nat.le_of_ble_eq_true rfl⟩ (Nat.le_of_ble_eq_true rfl) dX12_frees_50 (fun v50 e9 => c_X12_at _ _ _ v50 e9) h (fun v50 h => ?_) rfl
                    refine xx_iaload C 54 rfl (by decide) (fun _ => rfl) (by decide) dX12_frees_53 h (fun v53 h => ?_)
                    refine xx_iload_n C 55 rfl 1 dX12_frees_54 rfl rfl ?_
                    refine jn_r (fun J => ∀ (μ70 : mu_T), J μ70 = some μr → wx_ G X 9 ad (ceM G ad) μ70 0 0 70 [(0, .ref (ad 0)), (1, .int (iI a1)), (2, .int (iI x2_7)), (3, .int (iI x3_39))] []) h (fun μ70 h => ?_) (fun J70 K70 h => ?_)
                    · refine xx_iincn C 73 rfl 3 (by decide) dX12_frees_70 rfl h (fun n70 h => ?_)
                      refine xx_lv (lv1 := [(3, .int (iI n70)), (0, .ref (ad 0)), (1, .int (iI a1)), (2, .int (iI x2_7))]) rfl ?_
                      refine xx_goto C 39 dX12_frees_73 (by decide) ?_
                      refine xx_sub [1, 2, 3, 0] rfl ?_
                      exact K39 n70 μ70 h
                    · refine xx_icmp_ne (tgt := 70) C 58 rfl dX12_frees_55 (by decide) h (fun h => ?_) (fun h => ?_)
                      · exact K70 μ39 h
                      · refine xx_aload_n C 59 rfl 0 dX12_frees_58 rfl rfl ?_
                        refine xx_getr (fi := 0) C 62 rfl (by decide) (ceM_0 _ _ _) rfl in_X12 (by decide) rfl rfl w_1171 dX12_frees_59 ?_
                        refine xx_iload_n C 63 rfl 2 dX12_frees_62 rfl rfl ?_
                        refine xx_iload_n C 64 rfl 3 dX12_frees_63 rfl rfl ?_
                        refine xx_cSip (As := [.int (iI x2_7), .int (iI x3_39)]) (st := [.ref (ad 1)]) C 67 rfl  ca_X12_at cs_X12_at w_1168 rfl ⟨Nat.le_of_ble_eq_true rfl, Nat.le_of_ble_eq_true rfl⟩ ⟨Nat.le_of_ble_eq_true rfl, Nat.le_of_ble_eq_true rfl⟩ (Nat.le_of_ble_eq_true rfl) dX12_frees_64 (fun v64 e9 => c_X12_at _ _ _ v64 e9) h (fun v64 h => ?_) rfl
                        refine xx_bipush C 69 rfl dX12_frees_67 (by decide) ?_
                        refine xx_iastore C 70 rfl (by decide) (fun _ => rfl) (by decide) dX12_frees_69 h (fun μ69 h => ?_)
                        exact K70 μ69 h
              refine xx_sub [1, 2, 3, 0] rfl ?_
              exact L39 _ _ _ h
          · refine xx_icmp_ne (tgt := 37) C 26 rfl dX12_frees_23 (by decide) h (fun h => ?_) (fun h => ?_)
            · exact K37 μ7 h
            · refine xx_aload_n C 27 rfl 0 dX12_frees_26 rfl rfl ?_
              refine xx_getr (fi := 0) C 30 rfl (by decide) (ceM_0 _ _ _) rfl in_X12 (by decide) rfl rfl w_1171 dX12_frees_27 ?_
              refine xx_bipush C 32 rfl dX12_frees_30 (by decide) ?_
              refine xx_iload_n C 33 rfl 2 dX12_frees_32 rfl rfl ?_
              refine xx_iadd C 34 rfl dX12_frees_33 ?_
              refine xx_bipush C 36 rfl dX12_frees_34 (by decide) ?_
              refine xx_iastore C 37 rfl (by decide) (fun _ => rfl) (by decide) dX12_frees_36 h (fun μ36 h => ?_)
              exact K37 μ36 h
    refine xx_sub [1, 2, 0] rfl ?_
    exact L7 _ _ _ h
end
section
theorem dX12_sweeps_0 : decode cX12_sweeps 0 = .ok (.aload_n 0, 1) := by decide +kernel
theorem dX12_sweeps_1 : decode cX12_sweeps 1 = .ok (.getfield 7, 3) := by decide +kernel
theorem dX12_sweeps_4 : decode cX12_sweeps 4 = .ok (.iconst 1, 1) := by decide +kernel
theorem dX12_sweeps_5 : decode cX12_sweeps 5 = .ok (.iaload, 1) := by decide +kernel
theorem dX12_sweeps_6 : decode cX12_sweeps 6 = .ok (.istore_n 1, 1) := by decide +kernel
theorem dX12_sweeps_7 : decode cX12_sweeps 7 = .ok (.aload_n 0, 1) := by decide +kernel
theorem dX12_sweeps_8 : decode cX12_sweeps 8 = .ok (.getfield 7, 3) := by decide +kernel
theorem dX12_sweeps_11 : decode cX12_sweeps 11 = .ok (.bipush 17, 2) := by decide +kernel
theorem dX12_sweeps_13 : decode cX12_sweeps 13 = .ok (.iload_n 1, 1) := by decide +kernel
theorem dX12_sweeps_14 : decode cX12_sweeps 14 = .ok (.iadd, 1) := by decide +kernel
theorem dX12_sweeps_15 : decode cX12_sweeps 15 = .ok (.iaload, 1) := by decide +kernel
theorem dX12_sweeps_16 : decode cX12_sweeps 16 = .ok (.iconst 1, 1) := by decide +kernel
theorem dX12_sweeps_17 : decode cX12_sweeps 17 = .ok (.if_icmp .ne 23, 3) := by decide +kernel
theorem dX12_sweeps_20 : decode cX12_sweeps 20 = .ok (.aload_n 0, 1) := by decide +kernel
theorem dX12_sweeps_21 : decode cX12_sweeps 21 = .ok (.getfield 7, 3) := by decide +kernel
theorem dX12_sweeps_24 : decode cX12_sweeps 24 = .ok (.bipush 41, 2) := by decide +kernel
theorem dX12_sweeps_26 : decode cX12_sweeps 26 = .ok (.iload_n 1, 1) := by decide +kernel
theorem dX12_sweeps_27 : decode cX12_sweeps 27 = .ok (.iadd, 1) := by decide +kernel
theorem dX12_sweeps_28 : decode cX12_sweeps 28 = .ok (.iaload, 1) := by decide +kernel
theorem dX12_sweeps_29 : decode cX12_sweeps 29 = .ok (.ifCond .ne 11, 3) := by decide +kernel
theorem dX12_sweeps_32 : decode cX12_sweeps 32 = .ok (.aload_n 0, 1) := by decide +kernel
theorem dX12_sweeps_33 : decode cX12_sweeps 33 = .ok (.iload_n 1, 1) := by decide +kernel
theorem dX12_sweeps_34 : decode cX12_sweeps 34 = .ok (.invokevirtual 72, 3) := by decide +kernel
theorem dX12_sweeps_37 : decode cX12_sweeps 37 = .ok (.goto 13, 3) := by decide +kernel
theorem dX12_sweeps_40 : decode cX12_sweeps 40 = .ok (.aload_n 0, 1) := by decide +kernel
theorem dX12_sweeps_41 : decode cX12_sweeps 41 = .ok (.getfield 7, 3) := by decide +kernel
theorem dX12_sweeps_44 : decode cX12_sweeps 44 = .ok (.bipush 41, 2) := by decide +kernel
theorem dX12_sweeps_46 : decode cX12_sweeps 46 = .ok (.iload_n 1, 1) := by decide +kernel
theorem dX12_sweeps_47 : decode cX12_sweeps 47 = .ok (.iadd, 1) := by decide +kernel
theorem dX12_sweeps_48 : decode cX12_sweeps 48 = .ok (.iconst 0, 1) := by decide +kernel
theorem dX12_sweeps_49 : decode cX12_sweeps 49 = .ok (.iastore, 1) := by decide +kernel
theorem dX12_sweeps_50 : decode cX12_sweeps 50 = .ok (.aload_n 0, 1) := by decide +kernel
theorem dX12_sweeps_51 : decode cX12_sweeps 51 = .ok (.getfield 7, 3) := by decide +kernel
theorem dX12_sweeps_54 : decode cX12_sweeps 54 = .ok (.iconst 1, 1) := by decide +kernel
theorem dX12_sweeps_55 : decode cX12_sweeps 55 = .ok (.dup2, 1) := by decide +kernel
theorem dX12_sweeps_56 : decode cX12_sweeps 56 = .ok (.iaload, 1) := by decide +kernel
theorem dX12_sweeps_57 : decode cX12_sweeps 57 = .ok (.iconst 1, 1) := by decide +kernel
theorem dX12_sweeps_58 : decode cX12_sweeps 58 = .ok (.iadd, 1) := by decide +kernel
theorem dX12_sweeps_59 : decode cX12_sweeps 59 = .ok (.iastore, 1) := by decide +kernel
theorem dX12_sweeps_60 : decode cX12_sweeps 60 = .ok (.aload_n 0, 1) := by decide +kernel
theorem dX12_sweeps_61 : decode cX12_sweeps 61 = .ok (.getfield 7, 3) := by decide +kernel
theorem dX12_sweeps_64 : decode cX12_sweeps 64 = .ok (.iconst 1, 1) := by decide +kernel
theorem dX12_sweeps_65 : decode cX12_sweeps 65 = .ok (.iaload, 1) := by decide +kernel
theorem dX12_sweeps_66 : decode cX12_sweeps 66 = .ok (.bipush 24, 2) := by decide +kernel
theorem dX12_sweeps_68 : decode cX12_sweeps 68 = .ok (.if_icmp .ge 4, 3) := by decide +kernel
theorem dX12_sweeps_71 : decode cX12_sweeps 71 = .ok (.return_, 1) := by decide +kernel
theorem dX12_sweeps_72 : decode cX12_sweeps 72 = .ok (.aload_n 0, 1) := by decide +kernel
theorem dX12_sweeps_73 : decode cX12_sweeps 73 = .ok (.getfield 7, 3) := by decide +kernel
theorem dX12_sweeps_76 : decode cX12_sweeps 76 = .ok (.iconst 0, 1) := by decide +kernel
theorem dX12_sweeps_77 : decode cX12_sweeps 77 = .ok (.iconst 0, 1) := by decide +kernel
theorem dX12_sweeps_78 : decode cX12_sweeps 78 = .ok (.iastore, 1) := by decide +kernel
theorem dX12_sweeps_79 : decode cX12_sweeps 79 = .ok (.aload_n 0, 1) := by decide +kernel
theorem dX12_sweeps_80 : decode cX12_sweeps 80 = .ok (.getfield 7, 3) := by decide +kernel
theorem dX12_sweeps_83 : decode cX12_sweeps 83 = .ok (.iconst 1, 1) := by decide +kernel
theorem dX12_sweeps_84 : decode cX12_sweeps 84 = .ok (.iconst 0, 1) := by decide +kernel
theorem dX12_sweeps_85 : decode cX12_sweeps 85 = .ok (.iastore, 1) := by decide +kernel
theorem dX12_sweeps_86 : decode cX12_sweeps 86 = .ok (.aload_n 0, 1) := by decide +kernel
theorem dX12_sweeps_87 : decode cX12_sweeps 87 = .ok (.getfield 7, 3) := by decide +kernel
theorem dX12_sweeps_90 : decode cX12_sweeps 90 = .ok (.iconst 2, 1) := by decide +kernel
theorem dX12_sweeps_91 : decode cX12_sweeps 91 = .ok (.dup2, 1) := by decide +kernel
theorem dX12_sweeps_92 : decode cX12_sweeps 92 = .ok (.iaload, 1) := by decide +kernel
theorem dX12_sweeps_93 : decode cX12_sweeps 93 = .ok (.iconst 1, 1) := by decide +kernel
theorem dX12_sweeps_94 : decode cX12_sweeps 94 = .ok (.iadd, 1) := by decide +kernel
theorem dX12_sweeps_95 : decode cX12_sweeps 95 = .ok (.iastore, 1) := by decide +kernel
theorem dX12_sweeps_96 : decode cX12_sweeps 96 = .ok (.return_, 1) := by decide +kernel
theorem dX12_part_0 : decode cX12_part 0 = .ok (.aload_n 0, 1) := by decide +kernel
theorem dX12_part_1 : decode cX12_part 1 = .ok (.getfield 7, 3) := by decide +kernel
theorem dX12_part_4 : decode cX12_part 4 = .ok (.bipush 7, 2) := by decide +kernel
theorem dX12_part_6 : decode cX12_part 6 = .ok (.dup2, 1) := by decide +kernel
theorem dX12_part_7 : decode cX12_part 7 = .ok (.iaload, 1) := by decide +kernel
theorem dX12_part_8 : decode cX12_part 8 = .ok (.iconst 1, 1) := by decide +kernel
theorem dX12_part_9 : decode cX12_part 9 = .ok (.iadd, 1) := by decide +kernel
theorem dX12_part_10 : decode cX12_part 10 = .ok (.iastore, 1) := by decide +kernel
theorem dX12_part_11 : decode cX12_part 11 = .ok (.aload_n 0, 1) := by decide +kernel
theorem dX12_part_12 : decode cX12_part 12 = .ok (.getfield 7, 3) := by decide +kernel
theorem dX12_part_15 : decode cX12_part 15 = .ok (.iconst 0, 1) := by decide +kernel
theorem dX12_part_16 : decode cX12_part 16 = .ok (.iaload, 1) := by decide +kernel
theorem dX12_part_17 : decode cX12_part 17 = .ok (.iconst 2, 1) := by decide +kernel
theorem dX12_part_18 : decode cX12_part 18 = .ok (.if_icmp .ne 10, 3) := by decide +kernel
theorem dX12_part_21 : decode cX12_part 21 = .ok (.aload_n 0, 1) := by decide +kernel
theorem dX12_part_22 : decode cX12_part 22 = .ok (.invokevirtual 75, 3) := by decide +kernel
theorem dX12_part_25 : decode cX12_part 25 = .ok (.goto 31, 3) := by decide +kernel
theorem dX12_part_28 : decode cX12_part 28 = .ok (.aload_n 0, 1) := by decide +kernel
theorem dX12_part_29 : decode cX12_part 29 = .ok (.getfield 7, 3) := by decide +kernel
theorem dX12_part_32 : decode cX12_part 32 = .ok (.bipush 8, 2) := by decide +kernel
theorem dX12_part_34 : decode cX12_part 34 = .ok (.iaload, 1) := by decide +kernel
theorem dX12_part_35 : decode cX12_part 35 = .ok (.ifCond .le 10, 3) := by decide +kernel
theorem dX12_part_38 : decode cX12_part 38 = .ok (.aload_n 0, 1) := by decide +kernel
theorem dX12_part_39 : decode cX12_part 39 = .ok (.invokevirtual 78, 3) := by decide +kernel
theorem dX12_part_42 : decode cX12_part 42 = .ok (.goto 14, 3) := by decide +kernel
theorem dX12_part_45 : decode cX12_part 45 = .ok (.aload_n 0, 1) := by decide +kernel
theorem dX12_part_46 : decode cX12_part 46 = .ok (.invokevirtual 81, 3) := by decide +kernel
theorem dX12_part_49 : decode cX12_part 49 = .ok (.ifCond .ne 7, 3) := by decide +kernel
theorem dX12_part_52 : decode cX12_part 52 = .ok (.aload_n 0, 1) := by decide +kernel
theorem dX12_part_53 : decode cX12_part 53 = .ok (.invokevirtual 85, 3) := by decide +kernel
theorem dX12_part_56 : decode cX12_part 56 = .ok (.return_, 1) := by decide +kernel
theorem dX12_partsOn_0 : decode cX12_partsOn 0 = .ok (.iconst 0, 1) := by decide +kernel
theorem dX12_partsOn_1 : decode cX12_partsOn 1 = .ok (.istore_n 2, 1) := by decide +kernel
theorem dX12_partsOn_2 : decode cX12_partsOn 2 = .ok (.iload_n 2, 1) := by decide +kernel
theorem dX12_partsOn_3 : decode cX12_partsOn 3 = .ok (.iload_n 1, 1) := by decide +kernel
theorem dX12_partsOn_4 : decode cX12_partsOn 4 = .ok (.if_icmp .ge 22, 3) := by decide +kernel
theorem dX12_partsOn_7 : decode cX12_partsOn 7 = .ok (.aload_n 0, 1) := by decide +kernel
theorem dX12_partsOn_8 : decode cX12_partsOn 8 = .ok (.getfield 7, 3) := by decide +kernel
theorem dX12_partsOn_11 : decode cX12_partsOn 11 = .ok (.iconst 0, 1) := by decide +kernel
theorem dX12_partsOn_12 : decode cX12_partsOn 12 = .ok (.iaload, 1) := by decide +kernel
theorem dX12_partsOn_13 : decode cX12_partsOn 13 = .ok (.ifCond .le 13, 3) := by decide +kernel
theorem dX12_partsOn_16 : decode cX12_partsOn 16 = .ok (.aload_n 0, 1) := by decide +kernel
theorem dX12_partsOn_17 : decode cX12_partsOn 17 = .ok (.invokevirtual 88, 3) := by decide +kernel
theorem dX12_partsOn_20 : decode cX12_partsOn 20 = .ok (.iinc 2 1, 3) := by decide +kernel
theorem dX12_partsOn_23 : decode cX12_partsOn 23 = .ok (.goto (-21), 3) := by decide +kernel
theorem dX12_partsOn_26 : decode cX12_partsOn 26 = .ok (.iload_n 2, 1) := by decide +kernel
theorem dX12_partsOn_27 : decode cX12_partsOn 27 = .ok (.ireturn, 1) := by decide +kernel
theorem dX12_makes_0 : decode cX12_makes 0 = .ok (.iconst 0, 1) := by decide +kernel
theorem dX12_makes_1 : decode cX12_makes 1 = .ok (.istore_n 2, 1) := by decide +kernel
theorem dX12_makes_2 : decode cX12_makes 2 = .ok (.iload_n 2, 1) := by decide +kernel
theorem dX12_makes_3 : decode cX12_makes 3 = .ok (.bipush 24, 2) := by decide +kernel
theorem dX12_makes_5 : decode cX12_makes 5 = .ok (.if_icmp .ge 22, 3) := by decide +kernel
theorem dX12_makes_8 : decode cX12_makes 8 = .ok (.aload_n 0, 1) := by decide +kernel
theorem dX12_makes_9 : decode cX12_makes 9 = .ok (.getfield 7, 3) := by decide +kernel
theorem dX12_makes_12 : decode cX12_makes 12 = .ok (.bipush 17, 2) := by decide +kernel
theorem dX12_makes_14 : decode cX12_makes 14 = .ok (.iload_n 2, 1) := by decide +kernel
theorem dX12_makes_15 : decode cX12_makes 15 = .ok (.iadd, 1) := by decide +kernel
theorem dX12_makes_16 : decode cX12_makes 16 = .ok (.iaload, 1) := by decide +kernel
theorem dX12_makes_17 : decode cX12_makes 17 = .ok (.iconst 1, 1) := by decide +kernel
theorem dX12_makes_18 : decode cX12_makes 18 = .ok (.if_icmp .ne 9, 3) := by decide +kernel
theorem dX12_makes_21 : decode cX12_makes 21 = .ok (.iinc 2 1, 3) := by decide +kernel
theorem dX12_makes_24 : decode cX12_makes 24 = .ok (.goto (-22), 3) := by decide +kernel
theorem dX12_makes_27 : decode cX12_makes 27 = .ok (.iload_n 2, 1) := by decide +kernel
theorem dX12_makes_28 : decode cX12_makes 28 = .ok (.bipush 24, 2) := by decide +kernel
theorem dX12_makes_30 : decode cX12_makes 30 = .ok (.if_icmp .ne 11, 3) := by decide +kernel
theorem dX12_makes_33 : decode cX12_makes 33 = .ok (.aload_n 0, 1) := by decide +kernel
theorem dX12_makes_34 : decode cX12_makes 34 = .ok (.iconst 1, 1) := by decide +kernel
theorem dX12_makes_35 : decode cX12_makes 35 = .ok (.bipush 24, 2) := by decide +kernel
theorem dX12_makes_37 : decode cX12_makes 37 = .ok (.invokevirtual 91, 3) := by decide +kernel
theorem dX12_makes_40 : decode cX12_makes 40 = .ok (.ireturn, 1) := by decide +kernel
theorem dX12_makes_41 : decode cX12_makes 41 = .ok (.aload_n 0, 1) := by decide +kernel
theorem dX12_makes_42 : decode cX12_makes 42 = .ok (.getfield 7, 3) := by decide +kernel
theorem dX12_makes_45 : decode cX12_makes 45 = .ok (.bipush 17, 2) := by decide +kernel
theorem dX12_makes_47 : decode cX12_makes 47 = .ok (.iload_n 2, 1) := by decide +kernel
theorem dX12_makes_48 : decode cX12_makes 48 = .ok (.iadd, 1) := by decide +kernel
theorem dX12_makes_49 : decode cX12_makes 49 = .ok (.iconst 1, 1) := by decide +kernel
theorem dX12_makes_50 : decode cX12_makes 50 = .ok (.iastore, 1) := by decide +kernel
theorem dX12_makes_51 : decode cX12_makes 51 = .ok (.aload_n 0, 1) := by decide +kernel
theorem dX12_makes_52 : decode cX12_makes 52 = .ok (.getfield 7, 3) := by decide +kernel
theorem dX12_makes_55 : decode cX12_makes 55 = .ok (.bipush 65, 2) := by decide +kernel
theorem dX12_makes_57 : decode cX12_makes 57 = .ok (.iload_n 2, 1) := by decide +kernel
theorem dX12_makes_58 : decode cX12_makes 58 = .ok (.iadd, 1) := by decide +kernel
theorem dX12_makes_59 : decode cX12_makes 59 = .ok (.iload_n 1, 1) := by decide +kernel
theorem dX12_makes_60 : decode cX12_makes 60 = .ok (.ifCond .eq 7, 3) := by decide +kernel
theorem dX12_makes_63 : decode cX12_makes 63 = .ok (.iconst 1, 1) := by decide +kernel
theorem dX12_makes_64 : decode cX12_makes 64 = .ok (.goto 4, 3) := by decide +kernel
theorem dX12_makes_67 : decode cX12_makes 67 = .ok (.iconst 0, 1) := by decide +kernel
theorem dX12_makes_68 : decode cX12_makes 68 = .ok (.iastore, 1) := by decide +kernel
theorem dX12_makes_69 : decode cX12_makes 69 = .ok (.aload_n 0, 1) := by decide +kernel
theorem dX12_makes_70 : decode cX12_makes 70 = .ok (.getfield 7, 3) := by decide +kernel
theorem dX12_makes_73 : decode cX12_makes 73 = .ok (.bipush 89, 2) := by decide +kernel
theorem dX12_makes_75 : decode cX12_makes 75 = .ok (.iload_n 2, 1) := by decide +kernel
theorem dX12_makes_76 : decode cX12_makes 76 = .ok (.iadd, 1) := by decide +kernel
theorem dX12_makes_77 : decode cX12_makes 77 = .ok (.aload_n 0, 1) := by decide +kernel
theorem dX12_makes_78 : decode cX12_makes 78 = .ok (.getfield 7, 3) := by decide +kernel
theorem dX12_makes_81 : decode cX12_makes 81 = .ok (.iconst 2, 1) := by decide +kernel
theorem dX12_makes_82 : decode cX12_makes 82 = .ok (.iaload, 1) := by decide +kernel
theorem dX12_makes_83 : decode cX12_makes 83 = .ok (.iastore, 1) := by decide +kernel
theorem dX12_makes_84 : decode cX12_makes 84 = .ok (.aload_n 0, 1) := by decide +kernel
theorem dX12_makes_85 : decode cX12_makes 85 = .ok (.getfield 7, 3) := by decide +kernel
theorem dX12_makes_88 : decode cX12_makes 88 = .ok (.bipush 41, 2) := by decide +kernel
theorem dX12_makes_90 : decode cX12_makes 90 = .ok (.iload_n 2, 1) := by decide +kernel
theorem dX12_makes_91 : decode cX12_makes 91 = .ok (.iadd, 1) := by decide +kernel
theorem dX12_makes_92 : decode cX12_makes 92 = .ok (.aload_n 0, 1) := by decide +kernel
theorem dX12_makes_93 : decode cX12_makes 93 = .ok (.getfield 7, 3) := by decide +kernel
theorem dX12_makes_96 : decode cX12_makes 96 = .ok (.iconst 0, 1) := by decide +kernel
theorem dX12_makes_97 : decode cX12_makes 97 = .ok (.iaload, 1) := by decide +kernel
theorem dX12_makes_98 : decode cX12_makes 98 = .ok (.iconst 1, 1) := by decide +kernel
theorem dX12_makes_99 : decode cX12_makes 99 = .ok (.if_icmp .eq 23, 3) := by decide +kernel
theorem dX12_makes_102 : decode cX12_makes 102 = .ok (.aload_n 0, 1) := by decide +kernel
theorem dX12_makes_103 : decode cX12_makes 103 = .ok (.getfield 7, 3) := by decide +kernel
theorem dX12_makes_106 : decode cX12_makes 106 = .ok (.iconst 0, 1) := by decide +kernel
theorem dX12_makes_107 : decode cX12_makes 107 = .ok (.iaload, 1) := by decide +kernel
theorem dX12_makes_108 : decode cX12_makes 108 = .ok (.iconst 2, 1) := by decide +kernel
theorem dX12_makes_109 : decode cX12_makes 109 = .ok (.if_icmp .ne 17, 3) := by decide +kernel
theorem dX12_makes_112 : decode cX12_makes 112 = .ok (.iload_n 2, 1) := by decide +kernel
theorem dX12_makes_113 : decode cX12_makes 113 = .ok (.aload_n 0, 1) := by decide +kernel
theorem dX12_makes_114 : decode cX12_makes 114 = .ok (.getfield 7, 3) := by decide +kernel
theorem dX12_makes_117 : decode cX12_makes 117 = .ok (.iconst 1, 1) := by decide +kernel
theorem dX12_makes_118 : decode cX12_makes 118 = .ok (.iaload, 1) := by decide +kernel
theorem dX12_makes_119 : decode cX12_makes 119 = .ok (.if_icmp .lt 7, 3) := by decide +kernel
theorem dX12_makes_122 : decode cX12_makes 122 = .ok (.iconst 2, 1) := by decide +kernel
theorem dX12_makes_123 : decode cX12_makes 123 = .ok (.goto 4, 3) := by decide +kernel
theorem dX12_makes_126 : decode cX12_makes 126 = .ok (.iconst 0, 1) := by decide +kernel
theorem dX12_makes_127 : decode cX12_makes 127 = .ok (.iastore, 1) := by decide +kernel
theorem dX12_makes_128 : decode cX12_makes 128 = .ok (.aload_n 0, 1) := by decide +kernel
theorem dX12_makes_129 : decode cX12_makes 129 = .ok (.getfield 7, 3) := by decide +kernel
theorem dX12_makes_132 : decode cX12_makes 132 = .ok (.iconst 3, 1) := by decide +kernel
theorem dX12_makes_133 : decode cX12_makes 133 = .ok (.dup2, 1) := by decide +kernel
theorem dX12_makes_134 : decode cX12_makes 134 = .ok (.iaload, 1) := by decide +kernel
theorem dX12_makes_135 : decode cX12_makes 135 = .ok (.iconst 1, 1) := by decide +kernel
theorem dX12_makes_136 : decode cX12_makes 136 = .ok (.iadd, 1) := by decide +kernel
theorem dX12_makes_137 : decode cX12_makes 137 = .ok (.iastore, 1) := by decide +kernel
theorem dX12_makes_138 : decode cX12_makes 138 = .ok (.aload_n 0, 1) := by decide +kernel
theorem dX12_makes_139 : decode cX12_makes 139 = .ok (.iload_n 2, 1) := by decide +kernel
theorem dX12_makes_140 : decode cX12_makes 140 = .ok (.invokevirtual 94, 3) := by decide +kernel
theorem dX12_makes_143 : decode cX12_makes 143 = .ok (.ireturn, 1) := by decide +kernel
theorem dX12_ties_0 : decode cX12_ties 0 = .ok (.aload_n 0, 1) := by decide +kernel
theorem dX12_ties_1 : decode cX12_ties 1 = .ok (.iload_n 1, 1) := by decide +kernel
theorem dX12_ties_2 : decode cX12_ties 2 = .ok (.invokevirtual 97, 3) := by decide +kernel
theorem dX12_ties_5 : decode cX12_ties 5 = .ok (.ifCond .eq 20, 3) := by decide +kernel
theorem dX12_ties_8 : decode cX12_ties 8 = .ok (.iload_n 2, 1) := by decide +kernel
theorem dX12_ties_9 : decode cX12_ties 9 = .ok (.iconst 0, 1) := by decide +kernel
theorem dX12_ties_10 : decode cX12_ties 10 = .ok (.iconst 3, 1) := by decide +kernel
theorem dX12_ties_11 : decode cX12_ties 11 = .ok (.invokestatic 58, 3) := by decide +kernel
theorem dX12_ties_14 : decode cX12_ties 14 = .ok (.ifCond .eq 11, 3) := by decide +kernel
theorem dX12_ties_17 : decode cX12_ties 17 = .ok (.aload_n 0, 1) := by decide +kernel
theorem dX12_ties_18 : decode cX12_ties 18 = .ok (.iload_n 3, 1) := by decide +kernel
theorem dX12_ties_19 : decode cX12_ties 19 = .ok (.invokevirtual 97, 3) := by decide +kernel
theorem dX12_ties_22 : decode cX12_ties 22 = .ok (.ifCond .ne 6, 3) := by decide +kernel
theorem dX12_ties_25 : decode cX12_ties 25 = .ok (.bipush (-11), 2) := by decide +kernel
theorem dX12_ties_27 : decode cX12_ties 27 = .ok (.ireturn, 1) := by decide +kernel
theorem dX12_ties_28 : decode cX12_ties 28 = .ok (.aload_n 0, 1) := by decide +kernel
theorem dX12_ties_29 : decode cX12_ties 29 = .ok (.iload_n 1, 1) := by decide +kernel
theorem dX12_ties_30 : decode cX12_ties 30 = .ok (.invokevirtual 101, 3) := by decide +kernel
theorem dX12_ties_33 : decode cX12_ties 33 = .ok (.ifCond .eq 11, 3) := by decide +kernel
theorem dX12_ties_36 : decode cX12_ties 36 = .ok (.aload_n 0, 1) := by decide +kernel
theorem dX12_ties_37 : decode cX12_ties 37 = .ok (.bipush 7, 2) := by decide +kernel
theorem dX12_ties_39 : decode cX12_ties 39 = .ok (.iload_n 1, 1) := by decide +kernel
theorem dX12_ties_40 : decode cX12_ties 40 = .ok (.invokevirtual 91, 3) := by decide +kernel
theorem dX12_ties_43 : decode cX12_ties 43 = .ok (.ireturn, 1) := by decide +kernel
theorem dX12_ties_44 : decode cX12_ties 44 = .ok (.aload_n 0, 1) := by decide +kernel
theorem dX12_ties_45 : decode cX12_ties 45 = .ok (.iload_n 3, 1) := by decide +kernel
theorem dX12_ties_46 : decode cX12_ties 46 = .ok (.invokevirtual 101, 3) := by decide +kernel
theorem dX12_ties_49 : decode cX12_ties 49 = .ok (.ifCond .eq 11, 3) := by decide +kernel
theorem dX12_ties_52 : decode cX12_ties 52 = .ok (.aload_n 0, 1) := by decide +kernel
theorem dX12_ties_53 : decode cX12_ties 53 = .ok (.bipush 7, 2) := by decide +kernel
theorem dX12_ties_55 : decode cX12_ties 55 = .ok (.iload_n 3, 1) := by decide +kernel
theorem dX12_ties_56 : decode cX12_ties 56 = .ok (.invokevirtual 91, 3) := by decide +kernel
theorem dX12_ties_59 : decode cX12_ties 59 = .ok (.ireturn, 1) := by decide +kernel
theorem dX12_ties_60 : decode cX12_ties 60 = .ok (.aload_n 0, 1) := by decide +kernel
theorem dX12_ties_61 : decode cX12_ties 61 = .ok (.getfield 7, 3) := by decide +kernel
theorem dX12_ties_64 : decode cX12_ties 64 = .ok (.iload_n 1, 1) := by decide +kernel
theorem dX12_ties_65 : decode cX12_ties 65 = .ok (.iload_n 2, 1) := by decide +kernel
theorem dX12_ties_66 : decode cX12_ties 66 = .ok (.invokestatic 62, 3) := by decide +kernel
theorem dX12_ties_69 : decode cX12_ties 69 = .ok (.iaload, 1) := by decide +kernel
theorem dX12_ties_70 : decode cX12_ties 70 = .ok (.istore 4, 2) := by decide +kernel
theorem dX12_ties_72 : decode cX12_ties 72 = .ok (.aload_n 0, 1) := by decide +kernel
theorem dX12_ties_73 : decode cX12_ties 73 = .ok (.getfield 7, 3) := by decide +kernel
theorem dX12_ties_76 : decode cX12_ties 76 = .ok (.iload_n 1, 1) := by decide +kernel
theorem dX12_ties_77 : decode cX12_ties 77 = .ok (.iload_n 2, 1) := by decide +kernel
theorem dX12_ties_78 : decode cX12_ties 78 = .ok (.invokestatic 62, 3) := by decide +kernel
theorem dX12_ties_81 : decode cX12_ties 81 = .ok (.iload_n 3, 1) := by decide +kernel
theorem dX12_ties_82 : decode cX12_ties 82 = .ok (.iastore, 1) := by decide +kernel
theorem dX12_ties_83 : decode cX12_ties 83 = .ok (.aload_n 0, 1) := by decide +kernel
theorem dX12_ties_84 : decode cX12_ties 84 = .ok (.getfield 7, 3) := by decide +kernel
theorem dX12_ties_87 : decode cX12_ties 87 = .ok (.iconst 0, 1) := by decide +kernel
theorem dX12_ties_88 : decode cX12_ties 88 = .ok (.iaload, 1) := by decide +kernel
theorem dX12_ties_89 : decode cX12_ties 89 = .ok (.iconst 1, 1) := by decide +kernel
theorem dX12_ties_90 : decode cX12_ties 90 = .ok (.if_icmp .ne 21, 3) := by decide +kernel
theorem dX12_ties_93 : decode cX12_ties 93 = .ok (.aload_n 0, 1) := by decide +kernel
theorem dX12_ties_94 : decode cX12_ties 94 = .ok (.getfield 7, 3) := by decide +kernel
theorem dX12_ties_97 : decode cX12_ties 97 = .ok (.bipush 41, 2) := by decide +kernel
theorem dX12_ties_99 : decode cX12_ties 99 = .ok (.iload_n 1, 1) := by decide +kernel
theorem dX12_ties_100 : decode cX12_ties 100 = .ok (.iadd, 1) := by decide +kernel
theorem dX12_ties_101 : decode cX12_ties 101 = .ok (.iaload, 1) := by decide +kernel
theorem dX12_ties_102 : decode cX12_ties 102 = .ok (.iconst 2, 1) := by decide +kernel
theorem dX12_ties_103 : decode cX12_ties 103 = .ok (.if_icmp .ne 8, 3) := by decide +kernel
theorem dX12_ties_106 : decode cX12_ties 106 = .ok (.aload_n 0, 1) := by decide +kernel
theorem dX12_ties_107 : decode cX12_ties 107 = .ok (.iload_n 3, 1) := by decide +kernel
theorem dX12_ties_108 : decode cX12_ties 108 = .ok (.invokevirtual 69, 3) := by decide +kernel
theorem dX12_ties_111 : decode cX12_ties 111 = .ok (.aload_n 0, 1) := by decide +kernel
theorem dX12_ties_112 : decode cX12_ties 112 = .ok (.iload 4, 2) := by decide +kernel
theorem dX12_ties_114 : decode cX12_ties 114 = .ok (.invokevirtual 94, 3) := by decide +kernel
theorem dX12_ties_117 : decode cX12_ties 117 = .ok (.ireturn, 1) := by decide +kernel
theorem dX12_unties_0 : decode cX12_unties 0 = .ok (.aload_n 0, 1) := by decide +kernel
theorem dX12_unties_1 : decode cX12_unties 1 = .ok (.iload_n 1, 1) := by decide +kernel
theorem dX12_unties_2 : decode cX12_unties 2 = .ok (.invokevirtual 97, 3) := by decide +kernel
theorem dX12_unties_5 : decode cX12_unties 5 = .ok (.ifCond .eq 12, 3) := by decide +kernel
theorem dX12_unties_8 : decode cX12_unties 8 = .ok (.iload_n 2, 1) := by decide +kernel
theorem dX12_unties_9 : decode cX12_unties 9 = .ok (.iconst 0, 1) := by decide +kernel
theorem dX12_unties_10 : decode cX12_unties 10 = .ok (.iconst 3, 1) := by decide +kernel
theorem dX12_unties_11 : decode cX12_unties 11 = .ok (.invokestatic 58, 3) := by decide +kernel
theorem dX12_unties_14 : decode cX12_unties 14 = .ok (.ifCond .ne 6, 3) := by decide +kernel
theorem dX12_unties_17 : decode cX12_unties 17 = .ok (.bipush (-11), 2) := by decide +kernel
theorem dX12_unties_19 : decode cX12_unties 19 = .ok (.ireturn, 1) := by decide +kernel
theorem dX12_unties_20 : decode cX12_unties 20 = .ok (.aload_n 0, 1) := by decide +kernel
theorem dX12_unties_21 : decode cX12_unties 21 = .ok (.getfield 7, 3) := by decide +kernel
theorem dX12_unties_24 : decode cX12_unties 24 = .ok (.iload_n 1, 1) := by decide +kernel
theorem dX12_unties_25 : decode cX12_unties 25 = .ok (.iload_n 2, 1) := by decide +kernel
theorem dX12_unties_26 : decode cX12_unties 26 = .ok (.invokestatic 62, 3) := by decide +kernel
theorem dX12_unties_29 : decode cX12_unties 29 = .ok (.iaload, 1) := by decide +kernel
theorem dX12_unties_30 : decode cX12_unties 30 = .ok (.istore_n 3, 1) := by decide +kernel
theorem dX12_unties_31 : decode cX12_unties 31 = .ok (.iload_n 3, 1) := by decide +kernel
theorem dX12_unties_32 : decode cX12_unties 32 = .ok (.bipush (-15), 2) := by decide +kernel
theorem dX12_unties_34 : decode cX12_unties 34 = .ok (.if_icmp .ne 10, 3) := by decide +kernel
theorem dX12_unties_37 : decode cX12_unties 37 = .ok (.aload_n 0, 1) := by decide +kernel
theorem dX12_unties_38 : decode cX12_unties 38 = .ok (.iconst 2, 1) := by decide +kernel
theorem dX12_unties_39 : decode cX12_unties 39 = .ok (.iload_n 2, 1) := by decide +kernel
theorem dX12_unties_40 : decode cX12_unties 40 = .ok (.invokevirtual 91, 3) := by decide +kernel
theorem dX12_unties_43 : decode cX12_unties 43 = .ok (.ireturn, 1) := by decide +kernel
theorem dX12_unties_44 : decode cX12_unties 44 = .ok (.aload_n 0, 1) := by decide +kernel
theorem dX12_unties_45 : decode cX12_unties 45 = .ok (.getfield 7, 3) := by decide +kernel
theorem dX12_unties_48 : decode cX12_unties 48 = .ok (.iload_n 1, 1) := by decide +kernel
theorem dX12_unties_49 : decode cX12_unties 49 = .ok (.iload_n 2, 1) := by decide +kernel
theorem dX12_unties_50 : decode cX12_unties 50 = .ok (.invokestatic 62, 3) := by decide +kernel
theorem dX12_unties_53 : decode cX12_unties 53 = .ok (.bipush (-15), 2) := by decide +kernel
theorem dX12_unties_55 : decode cX12_unties 55 = .ok (.iastore, 1) := by decide +kernel
theorem dX12_unties_56 : decode cX12_unties 56 = .ok (.aload_n 0, 1) := by decide +kernel
theorem dX12_unties_57 : decode cX12_unties 57 = .ok (.iload_n 3, 1) := by decide +kernel
theorem dX12_unties_58 : decode cX12_unties 58 = .ok (.invokevirtual 94, 3) := by decide +kernel
theorem dX12_unties_61 : decode cX12_unties 61 = .ok (.ireturn, 1) := by decide +kernel
theorem dX12_weakens_0 : decode cX12_weakens 0 = .ok (.aload_n 0, 1) := by decide +kernel
theorem dX12_weakens_1 : decode cX12_weakens 1 = .ok (.iload_n 1, 1) := by decide +kernel
theorem dX12_weakens_2 : decode cX12_weakens 2 = .ok (.invokevirtual 97, 3) := by decide +kernel
theorem dX12_weakens_5 : decode cX12_weakens 5 = .ok (.ifCond .eq 11, 3) := by decide +kernel
theorem dX12_weakens_8 : decode cX12_weakens 8 = .ok (.aload_n 0, 1) := by decide +kernel
theorem dX12_weakens_9 : decode cX12_weakens 9 = .ok (.iload_n 2, 1) := by decide +kernel
theorem dX12_weakens_10 : decode cX12_weakens 10 = .ok (.invokevirtual 97, 3) := by decide +kernel
theorem dX12_weakens_13 : decode cX12_weakens 13 = .ok (.ifCond .ne 6, 3) := by decide +kernel
theorem dX12_weakens_16 : decode cX12_weakens 16 = .ok (.bipush (-11), 2) := by decide +kernel
theorem dX12_weakens_18 : decode cX12_weakens 18 = .ok (.ireturn, 1) := by decide +kernel
theorem dX12_weakens_19 : decode cX12_weakens 19 = .ok (.aload_n 0, 1) := by decide +kernel
theorem dX12_weakens_20 : decode cX12_weakens 20 = .ok (.iload_n 1, 1) := by decide +kernel
theorem dX12_weakens_21 : decode cX12_weakens 21 = .ok (.invokevirtual 101, 3) := by decide +kernel
theorem dX12_weakens_24 : decode cX12_weakens 24 = .ok (.ifCond .eq 11, 3) := by decide +kernel
theorem dX12_weakens_27 : decode cX12_weakens 27 = .ok (.aload_n 0, 1) := by decide +kernel
theorem dX12_weakens_28 : decode cX12_weakens 28 = .ok (.bipush 7, 2) := by decide +kernel
theorem dX12_weakens_30 : decode cX12_weakens 30 = .ok (.iload_n 1, 1) := by decide +kernel
theorem dX12_weakens_31 : decode cX12_weakens 31 = .ok (.invokevirtual 91, 3) := by decide +kernel
theorem dX12_weakens_34 : decode cX12_weakens 34 = .ok (.ireturn, 1) := by decide +kernel
theorem dX12_weakens_35 : decode cX12_weakens 35 = .ok (.aload_n 0, 1) := by decide +kernel
theorem dX12_weakens_36 : decode cX12_weakens 36 = .ok (.iload_n 2, 1) := by decide +kernel
theorem dX12_weakens_37 : decode cX12_weakens 37 = .ok (.invokevirtual 101, 3) := by decide +kernel
theorem dX12_weakens_40 : decode cX12_weakens 40 = .ok (.ifCond .eq 11, 3) := by decide +kernel
theorem dX12_weakens_43 : decode cX12_weakens 43 = .ok (.aload_n 0, 1) := by decide +kernel
theorem dX12_weakens_44 : decode cX12_weakens 44 = .ok (.bipush 7, 2) := by decide +kernel
theorem dX12_weakens_46 : decode cX12_weakens 46 = .ok (.iload_n 2, 1) := by decide +kernel
theorem dX12_weakens_47 : decode cX12_weakens 47 = .ok (.invokevirtual 91, 3) := by decide +kernel
theorem dX12_weakens_50 : decode cX12_weakens 50 = .ok (.ireturn, 1) := by decide +kernel
theorem dX12_weakens_51 : decode cX12_weakens 51 = .ok (.aload_n 0, 1) := by decide +kernel
theorem dX12_weakens_52 : decode cX12_weakens 52 = .ok (.getfield 7, 3) := by decide +kernel
theorem dX12_weakens_55 : decode cX12_weakens 55 = .ok (.bipush 113, 2) := by decide +kernel
theorem dX12_weakens_57 : decode cX12_weakens 57 = .ok (.iload_n 1, 1) := by decide +kernel
theorem dX12_weakens_58 : decode cX12_weakens 58 = .ok (.iadd, 1) := by decide +kernel
theorem dX12_weakens_59 : decode cX12_weakens 59 = .ok (.iaload, 1) := by decide +kernel
theorem dX12_weakens_60 : decode cX12_weakens 60 = .ok (.istore_n 3, 1) := by decide +kernel
theorem dX12_weakens_61 : decode cX12_weakens 61 = .ok (.aload_n 0, 1) := by decide +kernel
theorem dX12_weakens_62 : decode cX12_weakens 62 = .ok (.getfield 7, 3) := by decide +kernel
theorem dX12_weakens_65 : decode cX12_weakens 65 = .ok (.bipush 113, 2) := by decide +kernel
theorem dX12_weakens_67 : decode cX12_weakens 67 = .ok (.iload_n 1, 1) := by decide +kernel
theorem dX12_weakens_68 : decode cX12_weakens 68 = .ok (.iadd, 1) := by decide +kernel
theorem dX12_weakens_69 : decode cX12_weakens 69 = .ok (.iload_n 2, 1) := by decide +kernel
theorem dX12_weakens_70 : decode cX12_weakens 70 = .ok (.iastore, 1) := by decide +kernel
theorem dX12_weakens_71 : decode cX12_weakens 71 = .ok (.aload_n 0, 1) := by decide +kernel
theorem dX12_weakens_72 : decode cX12_weakens 72 = .ok (.iload_n 3, 1) := by decide +kernel
theorem dX12_weakens_73 : decode cX12_weakens 73 = .ok (.invokevirtual 94, 3) := by decide +kernel
theorem dX12_weakens_76 : decode cX12_weakens 76 = .ok (.ireturn, 1) := by decide +kernel
theorem dX12_names_0 : decode cX12_names 0 = .ok (.iload_n 1, 1) := by decide +kernel
theorem dX12_names_1 : decode cX12_names 1 = .ok (.iconst 0, 1) := by decide +kernel
theorem dX12_names_2 : decode cX12_names 2 = .ok (.iconst 5, 1) := by decide +kernel
theorem dX12_names_3 : decode cX12_names 3 = .ok (.invokestatic 58, 3) := by decide +kernel
theorem dX12_names_6 : decode cX12_names 6 = .ok (.ifCond .eq 11, 3) := by decide +kernel
theorem dX12_names_9 : decode cX12_names 9 = .ok (.aload_n 0, 1) := by decide +kernel
theorem dX12_names_10 : decode cX12_names 10 = .ok (.iload_n 2, 1) := by decide +kernel
theorem dX12_names_11 : decode cX12_names 11 = .ok (.invokevirtual 97, 3) := by decide +kernel
theorem dX12_names_14 : decode cX12_names 14 = .ok (.ifCond .ne 6, 3) := by decide +kernel
theorem dX12_names_17 : decode cX12_names 17 = .ok (.bipush (-11), 2) := by decide +kernel
theorem dX12_names_19 : decode cX12_names 19 = .ok (.ireturn, 1) := by decide +kernel
theorem dX12_names_20 : decode cX12_names 20 = .ok (.aload_n 0, 1) := by decide +kernel
theorem dX12_names_21 : decode cX12_names 21 = .ok (.iload_n 2, 1) := by decide +kernel
theorem dX12_names_22 : decode cX12_names 22 = .ok (.invokevirtual 101, 3) := by decide +kernel
theorem dX12_names_25 : decode cX12_names 25 = .ok (.ifCond .eq 11, 3) := by decide +kernel
theorem dX12_names_28 : decode cX12_names 28 = .ok (.aload_n 0, 1) := by decide +kernel
theorem dX12_names_29 : decode cX12_names 29 = .ok (.bipush 7, 2) := by decide +kernel
theorem dX12_names_31 : decode cX12_names 31 = .ok (.iload_n 2, 1) := by decide +kernel
theorem dX12_names_32 : decode cX12_names 32 = .ok (.invokevirtual 91, 3) := by decide +kernel
theorem dX12_names_35 : decode cX12_names 35 = .ok (.ireturn, 1) := by decide +kernel
theorem dX12_names_36 : decode cX12_names 36 = .ok (.aload_n 0, 1) := by decide +kernel
theorem dX12_names_37 : decode cX12_names 37 = .ok (.getfield 7, 3) := by decide +kernel
theorem dX12_names_40 : decode cX12_names 40 = .ok (.bipush 11, 2) := by decide +kernel
theorem dX12_names_42 : decode cX12_names 42 = .ok (.iload_n 1, 1) := by decide +kernel
theorem dX12_names_43 : decode cX12_names 43 = .ok (.iadd, 1) := by decide +kernel
theorem dX12_names_44 : decode cX12_names 44 = .ok (.iaload, 1) := by decide +kernel
theorem dX12_names_45 : decode cX12_names 45 = .ok (.istore_n 3, 1) := by decide +kernel
theorem dX12_names_46 : decode cX12_names 46 = .ok (.aload_n 0, 1) := by decide +kernel
theorem dX12_names_47 : decode cX12_names 47 = .ok (.getfield 7, 3) := by decide +kernel
theorem dX12_names_50 : decode cX12_names 50 = .ok (.bipush 11, 2) := by decide +kernel
theorem dX12_names_52 : decode cX12_names 52 = .ok (.iload_n 1, 1) := by decide +kernel
theorem dX12_names_53 : decode cX12_names 53 = .ok (.iadd, 1) := by decide +kernel
theorem dX12_names_54 : decode cX12_names 54 = .ok (.iload_n 2, 1) := by decide +kernel
theorem dX12_names_55 : decode cX12_names 55 = .ok (.iastore, 1) := by decide +kernel
theorem dX12_names_56 : decode cX12_names 56 = .ok (.aload_n 0, 1) := by decide +kernel
theorem dX12_names_57 : decode cX12_names 57 = .ok (.getfield 7, 3) := by decide +kernel
theorem dX12_names_60 : decode cX12_names 60 = .ok (.iconst 0, 1) := by decide +kernel
theorem dX12_names_61 : decode cX12_names 61 = .ok (.iaload, 1) := by decide +kernel
theorem dX12_names_62 : decode cX12_names 62 = .ok (.iconst 1, 1) := by decide +kernel
theorem dX12_names_63 : decode cX12_names 63 = .ok (.if_icmp .ne 8, 3) := by decide +kernel
theorem dX12_names_66 : decode cX12_names 66 = .ok (.aload_n 0, 1) := by decide +kernel
theorem dX12_names_67 : decode cX12_names 67 = .ok (.iload_n 2, 1) := by decide +kernel
theorem dX12_names_68 : decode cX12_names 68 = .ok (.invokevirtual 69, 3) := by decide +kernel
theorem dX12_names_71 : decode cX12_names 71 = .ok (.aload_n 0, 1) := by decide +kernel
theorem dX12_names_72 : decode cX12_names 72 = .ok (.iload_n 3, 1) := by decide +kernel
theorem dX12_names_73 : decode cX12_names 73 = .ok (.invokevirtual 94, 3) := by decide +kernel
theorem dX12_names_76 : decode cX12_names 76 = .ok (.ireturn, 1) := by decide +kernel
theorem dX12_drops_0 : decode cX12_drops 0 = .ok (.iload_n 1, 1) := by decide +kernel
theorem dX12_drops_1 : decode cX12_drops 1 = .ok (.iconst 0, 1) := by decide +kernel
theorem dX12_drops_2 : decode cX12_drops 2 = .ok (.iconst 5, 1) := by decide +kernel
theorem dX12_drops_3 : decode cX12_drops 3 = .ok (.invokestatic 58, 3) := by decide +kernel
theorem dX12_drops_6 : decode cX12_drops 6 = .ok (.ifCond .ne 6, 3) := by decide +kernel
theorem dX12_drops_9 : decode cX12_drops 9 = .ok (.bipush (-11), 2) := by decide +kernel
theorem dX12_drops_11 : decode cX12_drops 11 = .ok (.ireturn, 1) := by decide +kernel
theorem dX12_drops_12 : decode cX12_drops 12 = .ok (.aload_n 0, 1) := by decide +kernel
theorem dX12_drops_13 : decode cX12_drops 13 = .ok (.getfield 7, 3) := by decide +kernel
theorem dX12_drops_16 : decode cX12_drops 16 = .ok (.bipush 11, 2) := by decide +kernel
theorem dX12_drops_18 : decode cX12_drops 18 = .ok (.iload_n 1, 1) := by decide +kernel
theorem dX12_drops_19 : decode cX12_drops 19 = .ok (.iadd, 1) := by decide +kernel
theorem dX12_drops_20 : decode cX12_drops 20 = .ok (.iaload, 1) := by decide +kernel
theorem dX12_drops_21 : decode cX12_drops 21 = .ok (.istore_n 2, 1) := by decide +kernel
theorem dX12_drops_22 : decode cX12_drops 22 = .ok (.iload_n 2, 1) := by decide +kernel
theorem dX12_drops_23 : decode cX12_drops 23 = .ok (.bipush (-15), 2) := by decide +kernel
theorem dX12_drops_25 : decode cX12_drops 25 = .ok (.if_icmp .ne 10, 3) := by decide +kernel
theorem dX12_drops_28 : decode cX12_drops 28 = .ok (.aload_n 0, 1) := by decide +kernel
theorem dX12_drops_29 : decode cX12_drops 29 = .ok (.iconst 3, 1) := by decide +kernel
theorem dX12_drops_30 : decode cX12_drops 30 = .ok (.iload_n 1, 1) := by decide +kernel
theorem dX12_drops_31 : decode cX12_drops 31 = .ok (.invokevirtual 91, 3) := by decide +kernel
theorem dX12_drops_34 : decode cX12_drops 34 = .ok (.ireturn, 1) := by decide +kernel
theorem dX12_drops_35 : decode cX12_drops 35 = .ok (.aload_n 0, 1) := by decide +kernel
theorem dX12_drops_36 : decode cX12_drops 36 = .ok (.getfield 7, 3) := by decide +kernel
theorem dX12_drops_39 : decode cX12_drops 39 = .ok (.bipush 11, 2) := by decide +kernel
theorem dX12_drops_41 : decode cX12_drops 41 = .ok (.iload_n 1, 1) := by decide +kernel
theorem dX12_drops_42 : decode cX12_drops 42 = .ok (.iadd, 1) := by decide +kernel
theorem dX12_drops_43 : decode cX12_drops 43 = .ok (.bipush (-15), 2) := by decide +kernel
theorem dX12_drops_45 : decode cX12_drops 45 = .ok (.iastore, 1) := by decide +kernel
theorem dX12_drops_46 : decode cX12_drops 46 = .ok (.aload_n 0, 1) := by decide +kernel
theorem dX12_drops_47 : decode cX12_drops 47 = .ok (.iload_n 2, 1) := by decide +kernel
theorem dX12_drops_48 : decode cX12_drops 48 = .ok (.invokevirtual 94, 3) := by decide +kernel
theorem dX12_drops_51 : decode cX12_drops 51 = .ok (.ireturn, 1) := by decide +kernel
theorem dX12_stepsOn_0 : decode cX12_stepsOn 0 = .ok (.iload_n 1, 1) := by decide +kernel
theorem dX12_stepsOn_1 : decode cX12_stepsOn 1 = .ok (.iconst 1, 1) := by decide +kernel
theorem dX12_stepsOn_2 : decode cX12_stepsOn 2 = .ok (.bipush 99, 2) := by decide +kernel
theorem dX12_stepsOn_4 : decode cX12_stepsOn 4 = .ok (.invokestatic 58, 3) := by decide +kernel
theorem dX12_stepsOn_7 : decode cX12_stepsOn 7 = .ok (.ifCond .ne 6, 3) := by decide +kernel
theorem dX12_stepsOn_10 : decode cX12_stepsOn 10 = .ok (.bipush (-12), 2) := by decide +kernel
theorem dX12_stepsOn_12 : decode cX12_stepsOn 12 = .ok (.ireturn, 1) := by decide +kernel
theorem dX12_stepsOn_13 : decode cX12_stepsOn 13 = .ok (.aload_n 0, 1) := by decide +kernel
theorem dX12_stepsOn_14 : decode cX12_stepsOn 14 = .ok (.getfield 7, 3) := by decide +kernel
theorem dX12_stepsOn_17 : decode cX12_stepsOn 17 = .ok (.iconst 0, 1) := by decide +kernel
theorem dX12_stepsOn_18 : decode cX12_stepsOn 18 = .ok (.iaload, 1) := by decide +kernel
theorem dX12_stepsOn_19 : decode cX12_stepsOn 19 = .ok (.ifCond .ne 17, 3) := by decide +kernel
theorem dX12_stepsOn_22 : decode cX12_stepsOn 22 = .ok (.aload_n 0, 1) := by decide +kernel
theorem dX12_stepsOn_23 : decode cX12_stepsOn 23 = .ok (.iconst 5, 1) := by decide +kernel
theorem dX12_stepsOn_24 : decode cX12_stepsOn 24 = .ok (.aload_n 0, 1) := by decide +kernel
theorem dX12_stepsOn_25 : decode cX12_stepsOn 25 = .ok (.getfield 7, 3) := by decide +kernel
theorem dX12_stepsOn_28 : decode cX12_stepsOn 28 = .ok (.iconst 2, 1) := by decide +kernel
theorem dX12_stepsOn_29 : decode cX12_stepsOn 29 = .ok (.iaload, 1) := by decide +kernel
theorem dX12_stepsOn_30 : decode cX12_stepsOn 30 = .ok (.invokevirtual 91, 3) := by decide +kernel
theorem dX12_stepsOn_33 : decode cX12_stepsOn 33 = .ok (.goto 12, 3) := by decide +kernel
theorem dX12_stepsOn_36 : decode cX12_stepsOn 36 = .ok (.aload_n 0, 1) := by decide +kernel
theorem dX12_stepsOn_37 : decode cX12_stepsOn 37 = .ok (.aload_n 0, 1) := by decide +kernel
theorem dX12_stepsOn_38 : decode cX12_stepsOn 38 = .ok (.iload_n 1, 1) := by decide +kernel
theorem dX12_stepsOn_39 : decode cX12_stepsOn 39 = .ok (.invokevirtual 104, 3) := by decide +kernel
theorem dX12_stepsOn_42 : decode cX12_stepsOn 42 = .ok (.invokevirtual 94, 3) := by decide +kernel
theorem dX12_stepsOn_45 : decode cX12_stepsOn 45 = .ok (.ireturn, 1) := by decide +kernel
theorem dX12_wholeRound_0 : decode cX12_wholeRound 0 = .ok (.aload_n 0, 1) := by decide +kernel
theorem dX12_wholeRound_1 : decode cX12_wholeRound 1 = .ok (.getfield 7, 3) := by decide +kernel
theorem dX12_wholeRound_4 : decode cX12_wholeRound 4 = .ok (.iconst 4, 1) := by decide +kernel
theorem dX12_wholeRound_5 : decode cX12_wholeRound 5 = .ok (.iaload, 1) := by decide +kernel
theorem dX12_wholeRound_6 : decode cX12_wholeRound 6 = .ok (.istore_n 1, 1) := by decide +kernel
theorem dX12_wholeRound_7 : decode cX12_wholeRound 7 = .ok (.aload_n 0, 1) := by decide +kernel
theorem dX12_wholeRound_8 : decode cX12_wholeRound 8 = .ok (.getfield 7, 3) := by decide +kernel
theorem dX12_wholeRound_11 : decode cX12_wholeRound 11 = .ok (.iconst 0, 1) := by decide +kernel
theorem dX12_wholeRound_12 : decode cX12_wholeRound 12 = .ok (.iaload, 1) := by decide +kernel
theorem dX12_wholeRound_13 : decode cX12_wholeRound 13 = .ok (.ifCond .ne 10, 3) := by decide +kernel
theorem dX12_wholeRound_16 : decode cX12_wholeRound 16 = .ok (.aload_n 0, 1) := by decide +kernel
theorem dX12_wholeRound_17 : decode cX12_wholeRound 17 = .ok (.invokevirtual 107, 3) := by decide +kernel
theorem dX12_wholeRound_20 : decode cX12_wholeRound 20 = .ok (.goto 4, 3) := by decide +kernel
theorem dX12_wholeRound_23 : decode cX12_wholeRound 23 = .ok (.iconst 0, 1) := by decide +kernel
theorem dX12_wholeRound_24 : decode cX12_wholeRound 24 = .ok (.istore_n 2, 1) := by decide +kernel
theorem dX12_wholeRound_25 : decode cX12_wholeRound 25 = .ok (.aload_n 0, 1) := by decide +kernel
theorem dX12_wholeRound_26 : decode cX12_wholeRound 26 = .ok (.sipush 10000, 3) := by decide +kernel
theorem dX12_wholeRound_29 : decode cX12_wholeRound 29 = .ok (.invokevirtual 104, 3) := by decide +kernel
theorem dX12_wholeRound_32 : decode cX12_wholeRound 32 = .ok (.istore_n 3, 1) := by decide +kernel
theorem dX12_wholeRound_33 : decode cX12_wholeRound 33 = .ok (.aload_n 0, 1) := by decide +kernel
theorem dX12_wholeRound_34 : decode cX12_wholeRound 34 = .ok (.aload_n 0, 1) := by decide +kernel
theorem dX12_wholeRound_35 : decode cX12_wholeRound 35 = .ok (.getfield 7, 3) := by decide +kernel
theorem dX12_wholeRound_38 : decode cX12_wholeRound 38 = .ok (.iconst 4, 1) := by decide +kernel
theorem dX12_wholeRound_39 : decode cX12_wholeRound 39 = .ok (.iaload, 1) := by decide +kernel
theorem dX12_wholeRound_40 : decode cX12_wholeRound 40 = .ok (.iload_n 1, 1) := by decide +kernel
theorem dX12_wholeRound_41 : decode cX12_wholeRound 41 = .ok (.isub, 1) := by decide +kernel
theorem dX12_wholeRound_42 : decode cX12_wholeRound 42 = .ok (.invokevirtual 94, 3) := by decide +kernel
theorem dX12_wholeRound_45 : decode cX12_wholeRound 45 = .ok (.ireturn, 1) := by decide +kernel
theorem dX12_doesRite_0 : decode cX12_doesRite 0 = .ok (.aload_n 0, 1) := by decide +kernel
theorem dX12_doesRite_1 : decode cX12_doesRite 1 = .ok (.getfield 7, 3) := by decide +kernel
theorem dX12_doesRite_4 : decode cX12_doesRite 4 = .ok (.bipush 9, 2) := by decide +kernel
theorem dX12_doesRite_6 : decode cX12_doesRite 6 = .ok (.iaload, 1) := by decide +kernel
theorem dX12_doesRite_7 : decode cX12_doesRite 7 = .ok (.ifCond .ne 16, 3) := by decide +kernel
theorem dX12_doesRite_10 : decode cX12_doesRite 10 = .ok (.aload_n 0, 1) := by decide +kernel
theorem dX12_doesRite_11 : decode cX12_doesRite 11 = .ok (.bipush 6, 2) := by decide +kernel
theorem dX12_doesRite_13 : decode cX12_doesRite 13 = .ok (.aload_n 0, 1) := by decide +kernel
theorem dX12_doesRite_14 : decode cX12_doesRite 14 = .ok (.getfield 7, 3) := by decide +kernel
theorem dX12_doesRite_17 : decode cX12_doesRite 17 = .ok (.iconst 5, 1) := by decide +kernel
theorem dX12_doesRite_18 : decode cX12_doesRite 18 = .ok (.iaload, 1) := by decide +kernel
theorem dX12_doesRite_19 : decode cX12_doesRite 19 = .ok (.invokevirtual 91, 3) := by decide +kernel
theorem dX12_doesRite_22 : decode cX12_doesRite 22 = .ok (.ireturn, 1) := by decide +kernel
theorem dX12_doesRite_23 : decode cX12_doesRite 23 = .ok (.aload_n 0, 1) := by decide +kernel
theorem dX12_doesRite_24 : decode cX12_doesRite 24 = .ok (.getfield 7, 3) := by decide +kernel
theorem dX12_doesRite_27 : decode cX12_doesRite 27 = .ok (.sipush 257, 3) := by decide +kernel
theorem dX12_doesRite_30 : decode cX12_doesRite 30 = .ok (.iaload, 1) := by decide +kernel
theorem dX12_doesRite_31 : decode cX12_doesRite 31 = .ok (.istore_n 1, 1) := by decide +kernel
theorem dX12_doesRite_32 : decode cX12_doesRite 32 = .ok (.aload_n 0, 1) := by decide +kernel
theorem dX12_doesRite_33 : decode cX12_doesRite 33 = .ok (.getfield 7, 3) := by decide +kernel
theorem dX12_doesRite_36 : decode cX12_doesRite 36 = .ok (.bipush 9, 2) := by decide +kernel
theorem dX12_doesRite_38 : decode cX12_doesRite 38 = .ok (.dup2, 1) := by decide +kernel
theorem dX12_doesRite_39 : decode cX12_doesRite 39 = .ok (.iaload, 1) := by decide +kernel
theorem dX12_doesRite_40 : decode cX12_doesRite 40 = .ok (.iconst 1, 1) := by decide +kernel
theorem dX12_doesRite_41 : decode cX12_doesRite 41 = .ok (.isub, 1) := by decide +kernel
theorem dX12_doesRite_42 : decode cX12_doesRite 42 = .ok (.iastore, 1) := by decide +kernel
theorem dX12_doesRite_43 : decode cX12_doesRite 43 = .ok (.iconst 0, 1) := by decide +kernel
theorem dX12_doesRite_44 : decode cX12_doesRite 44 = .ok (.istore_n 2, 1) := by decide +kernel
theorem dX12_doesRite_45 : decode cX12_doesRite 45 = .ok (.iload_n 2, 1) := by decide +kernel
theorem dX12_doesRite_46 : decode cX12_doesRite 46 = .ok (.aload_n 0, 1) := by decide +kernel
theorem dX12_doesRite_47 : decode cX12_doesRite 47 = .ok (.getfield 7, 3) := by decide +kernel
theorem dX12_doesRite_50 : decode cX12_doesRite 50 = .ok (.bipush 9, 2) := by decide +kernel
theorem dX12_doesRite_52 : decode cX12_doesRite 52 = .ok (.iaload, 1) := by decide +kernel
theorem dX12_doesRite_53 : decode cX12_doesRite 53 = .ok (.if_icmp .ge 31, 3) := by decide +kernel
theorem dX12_doesRite_56 : decode cX12_doesRite 56 = .ok (.aload_n 0, 1) := by decide +kernel
theorem dX12_doesRite_57 : decode cX12_doesRite 57 = .ok (.getfield 7, 3) := by decide +kernel
theorem dX12_doesRite_60 : decode cX12_doesRite 60 = .ok (.sipush 257, 3) := by decide +kernel
theorem dX12_doesRite_63 : decode cX12_doesRite 63 = .ok (.iload_n 2, 1) := by decide +kernel
theorem dX12_doesRite_64 : decode cX12_doesRite 64 = .ok (.iadd, 1) := by decide +kernel
theorem dX12_doesRite_65 : decode cX12_doesRite 65 = .ok (.aload_n 0, 1) := by decide +kernel
theorem dX12_doesRite_66 : decode cX12_doesRite 66 = .ok (.getfield 7, 3) := by decide +kernel
theorem dX12_doesRite_69 : decode cX12_doesRite 69 = .ok (.sipush 257, 3) := by decide +kernel
theorem dX12_doesRite_72 : decode cX12_doesRite 72 = .ok (.iload_n 2, 1) := by decide +kernel
theorem dX12_doesRite_73 : decode cX12_doesRite 73 = .ok (.iadd, 1) := by decide +kernel
theorem dX12_doesRite_74 : decode cX12_doesRite 74 = .ok (.iconst 1, 1) := by decide +kernel
theorem dX12_doesRite_75 : decode cX12_doesRite 75 = .ok (.iadd, 1) := by decide +kernel
theorem dX12_doesRite_76 : decode cX12_doesRite 76 = .ok (.iaload, 1) := by decide +kernel
theorem dX12_doesRite_77 : decode cX12_doesRite 77 = .ok (.iastore, 1) := by decide +kernel
theorem dX12_doesRite_78 : decode cX12_doesRite 78 = .ok (.iinc 2 1, 3) := by decide +kernel
theorem dX12_doesRite_81 : decode cX12_doesRite 81 = .ok (.goto (-36), 3) := by decide +kernel
theorem dX12_doesRite_84 : decode cX12_doesRite 84 = .ok (.aload_n 0, 1) := by decide +kernel
theorem dX12_doesRite_85 : decode cX12_doesRite 85 = .ok (.getfield 7, 3) := by decide +kernel
theorem dX12_doesRite_88 : decode cX12_doesRite 88 = .ok (.sipush 257, 3) := by decide +kernel
theorem dX12_doesRite_91 : decode cX12_doesRite 91 = .ok (.aload_n 0, 1) := by decide +kernel
theorem dX12_doesRite_92 : decode cX12_doesRite 92 = .ok (.getfield 7, 3) := by decide +kernel
theorem dX12_doesRite_95 : decode cX12_doesRite 95 = .ok (.bipush 9, 2) := by decide +kernel
theorem dX12_doesRite_97 : decode cX12_doesRite 97 = .ok (.iaload, 1) := by decide +kernel
theorem dX12_doesRite_98 : decode cX12_doesRite 98 = .ok (.iadd, 1) := by decide +kernel
theorem dX12_doesRite_99 : decode cX12_doesRite 99 = .ok (.iconst 0, 1) := by decide +kernel
theorem dX12_doesRite_100 : decode cX12_doesRite 100 = .ok (.iastore, 1) := by decide +kernel
theorem dX12_doesRite_101 : decode cX12_doesRite 101 = .ok (.aload_n 0, 1) := by decide +kernel
theorem dX12_doesRite_102 : decode cX12_doesRite 102 = .ok (.getfield 7, 3) := by decide +kernel
theorem dX12_doesRite_105 : decode cX12_doesRite 105 = .ok (.bipush 65, 2) := by decide +kernel
theorem dX12_doesRite_107 : decode cX12_doesRite 107 = .ok (.iload_n 1, 1) := by decide +kernel
theorem dX12_doesRite_108 : decode cX12_doesRite 108 = .ok (.iadd, 1) := by decide +kernel
theorem dX12_doesRite_109 : decode cX12_doesRite 109 = .ok (.iconst 0, 1) := by decide +kernel
theorem dX12_doesRite_110 : decode cX12_doesRite 110 = .ok (.iastore, 1) := by decide +kernel
theorem dX12_doesRite_111 : decode cX12_doesRite 111 = .ok (.aload_n 0, 1) := by decide +kernel
theorem dX12_doesRite_112 : decode cX12_doesRite 112 = .ok (.getfield 7, 3) := by decide +kernel
theorem dX12_doesRite_115 : decode cX12_doesRite 115 = .ok (.iconst 5, 1) := by decide +kernel
theorem dX12_doesRite_116 : decode cX12_doesRite 116 = .ok (.dup2, 1) := by decide +kernel
theorem dX12_doesRite_117 : decode cX12_doesRite 117 = .ok (.iaload, 1) := by decide +kernel
theorem dX12_doesRite_118 : decode cX12_doesRite 118 = .ok (.iconst 1, 1) := by decide +kernel
theorem dX12_doesRite_119 : decode cX12_doesRite 119 = .ok (.iadd, 1) := by decide +kernel
theorem dX12_doesRite_120 : decode cX12_doesRite 120 = .ok (.iastore, 1) := by decide +kernel
theorem dX12_doesRite_121 : decode cX12_doesRite 121 = .ok (.aload_n 0, 1) := by decide +kernel
theorem dX12_doesRite_122 : decode cX12_doesRite 122 = .ok (.iload_n 1, 1) := by decide +kernel
theorem dX12_doesRite_123 : decode cX12_doesRite 123 = .ok (.invokevirtual 94, 3) := by decide +kernel
theorem dX12_doesRite_126 : decode cX12_doesRite 126 = .ok (.ireturn, 1) := by decide +kernel
def f_X12_sweeps (μ : mu_T)  : Option mu_T :=
  rd_ μ 1 293 1 (fun v5 => rd_ μ 1 293 (17 + v5) (fun v15 => jn_ (φ := mu_T → Option mu_T) (fun μ50 => rd_ μ50 1 293 1 (fun v56 => wr_ μ50 1 293 1 (v56 + 1) (fun μ59 => rd_ μ59 1 293 1 (fun v65 => lt_ v65 24
      (some μ59)
      (wr_ μ59 1 293 0 0 (fun μ78 => wr_ μ78 1 293 1 0 (fun μ85 => rd_ μ85 1 293 2 (fun v92 => wr_ μ85 1 293 2 (v92 + 1) (fun μ95 => some μ95)))))))))
      (fun J50 => jn_ (φ := Unit → Option mu_T) (fun _ => wr_ μ 1 293 (41 + v5) 0 (fun μ49 => J50 μ49))
      (fun J40 => eq_ v15 1
      (rd_ μ 1 293 (41 + v5) (fun v28 => eq_ v28 0
      (bd_ (f_X12_frees μ v5) (fun μ34 => J50 μ34))
      (J40 ())))
      (J40 ())))))
set_option maxHeartbeats 4000000 in
set_option maxRecDepth 100000 in
theorem c_X12_sweeps {G : gp_} {ad : Nat → Nat} (μ : mu_T)  (μr : mu_T) (h : f_X12_sweeps μ  = some μr) : mv_ yX12_sweeps cX12_sweeps 2 ({ frames := 3, cells := 0, slots := 0, locals := 66 } : Room) G 9 ad (ceM G ad) [.ref (ad 0)] μ μr := by
  refine mv_in (own := "UrnHeapModel") (lv := [(0, .ref (ad 0))]) (by decide) rfl rfl (Nat.le_of_ble_eq_true rfl) (fun X C E => ?_)
  unfold f_X12_sweeps at h
  refine xx_aload_n C 1 rfl 0 dX12_sweeps_0 rfl rfl ?_
  refine xx_getr (fi := 0) C 4 rfl (by decide) (ceM_0 _ _ _) rfl in_X12 (by decide) rfl rfl w_1171 dX12_sweeps_1 ?_
  refine xx_iconst C 5 rfl dX12_sweeps_4 ?_
  refine xx_iaload C 6 rfl (by decide) (fun _ => rfl) (by decide) dX12_sweeps_5 h (fun v5 h => ?_)
  refine xx_istore_n (lv1 := [(1, .int (iI v5)), (0, .ref (ad 0))]) C 7 rfl (by decide) dX12_sweeps_6 rfl rfl ?_
  refine xx_aload_n C 8 rfl 1 dX12_sweeps_7 rfl rfl ?_
  refine xx_getr (fi := 0) C 11 rfl (by decide) (ceM_0 _ _ _) rfl in_X12 (by decide) rfl rfl w_1171 dX12_sweeps_8 ?_
  refine xx_bipush C 13 rfl dX12_sweeps_11 (by decide) ?_
  refine xx_iload_n C 14 rfl 0 dX12_sweeps_13 rfl rfl ?_
  refine xx_iadd C 15 rfl dX12_sweeps_14 ?_
  refine xx_iaload C 16 rfl (by decide) (fun _ => rfl) (by decide) dX12_sweeps_15 h (fun v15 h => ?_)
  refine xx_iconst C 17 rfl dX12_sweeps_16 ?_
  refine jn_r (fun J => ∀ (μ50 : mu_T), J μ50 = some μr → wx_ G X 9 ad (ceM G ad) μ50 0 0 50 [(0, .ref (ad 0))] []) h (fun μ50 h => ?_) (fun J50 K50 h => ?_)
  · refine xx_aload_n C 51 rfl 0 dX12_sweeps_50 rfl rfl ?_
    refine xx_getr (fi := 0) C 54 rfl (by decide) (ceM_0 _ _ _) rfl in_X12 (by decide) rfl rfl w_1171 dX12_sweeps_51 ?_
    refine xx_iconst C 55 rfl dX12_sweeps_54 ?_
    refine xx_dup2 C 56 rfl dX12_sweeps_55 rfl rfl ?_
    refine xx_iaload C 57 rfl (by decide) (fun _ => rfl) (by decide) dX12_sweeps_56 h (fun v56 h => ?_)
    refine xx_iconst C 58 rfl dX12_sweeps_57 ?_
    refine xx_iadd C 59 rfl dX12_sweeps_58 ?_
    refine xx_iastore C 60 rfl (by decide) (fun _ => rfl) (by decide) dX12_sweeps_59 h (fun μ59 h => ?_)
    refine xx_aload_n C 61 rfl 0 dX12_sweeps_60 rfl rfl ?_
    refine xx_getr (fi := 0) C 64 rfl (by decide) (ceM_0 _ _ _) rfl in_X12 (by decide) rfl rfl w_1171 dX12_sweeps_61 ?_
    refine xx_iconst C 65 rfl dX12_sweeps_64 ?_
    refine xx_iaload C 66 rfl (by decide) (fun _ => rfl) (by decide) dX12_sweeps_65 h (fun v65 h => ?_)
    refine xx_bipush C 68 rfl dX12_sweeps_66 (by decide) ?_
    refine xx_icmp_ge (tgt := 72) C 71 rfl dX12_sweeps_68 (by decide) h (fun h => ?_) (fun h => ?_)
    · refine xx_aload_n C 73 rfl 0 dX12_sweeps_72 rfl rfl ?_
      refine xx_getr (fi := 0) C 76 rfl (by decide) (ceM_0 _ _ _) rfl in_X12 (by decide) rfl rfl w_1171 dX12_sweeps_73 ?_
      refine xx_iconst C 77 rfl dX12_sweeps_76 ?_
      refine xx_iconst C 78 rfl dX12_sweeps_77 ?_
      refine xx_iastore C 79 rfl (by decide) (fun _ => rfl) (by decide) dX12_sweeps_78 h (fun μ78 h => ?_)
      refine xx_aload_n C 80 rfl 0 dX12_sweeps_79 rfl rfl ?_
      refine xx_getr (fi := 0) C 83 rfl (by decide) (ceM_0 _ _ _) rfl in_X12 (by decide) rfl rfl w_1171 dX12_sweeps_80 ?_
      refine xx_iconst C 84 rfl dX12_sweeps_83 ?_
      refine xx_iconst C 85 rfl dX12_sweeps_84 ?_
      refine xx_iastore C 86 rfl (by decide) (fun _ => rfl) (by decide) dX12_sweeps_85 h (fun μ85 h => ?_)
      refine xx_aload_n C 87 rfl 0 dX12_sweeps_86 rfl rfl ?_
      refine xx_getr (fi := 0) C 90 rfl (by decide) (ceM_0 _ _ _) rfl in_X12 (by decide) rfl rfl w_1171 dX12_sweeps_87 ?_
      refine xx_iconst C 91 rfl dX12_sweeps_90 ?_
      refine xx_dup2 C 92 rfl dX12_sweeps_91 rfl rfl ?_
      refine xx_iaload C 93 rfl (by decide) (fun _ => rfl) (by decide) dX12_sweeps_92 h (fun v92 h => ?_)
      refine xx_iconst C 94 rfl dX12_sweeps_93 ?_
      refine xx_iadd C 95 rfl dX12_sweeps_94 ?_
      refine xx_iastore C 96 rfl (by decide) (fun _ => rfl) (by decide) dX12_sweeps_95 h (fun μ95 h => ?_)
      exact xx_vret C E rfl ⟨Nat.le_of_ble_eq_true rfl, Nat.le_of_ble_eq_true rfl⟩ dX12_sweeps_96 h
    · exact xx_vret C E rfl ⟨Nat.le_of_ble_eq_true rfl, Nat.le_of_ble_eq_true rfl⟩ dX12_sweeps_71 h
  · refine jn_r (fun J => ∀ (_u : Unit), J _u = some μr → wx_ G X 9 ad (ceM G ad) μ 0 0 40 [(0, .ref (ad 0)), (1, .int (iI v5))] []) h (fun _ h => ?_) (fun J40 K40 h => ?_)
    · refine xx_aload_n C 41 rfl 0 dX12_sweeps_40 rfl rfl ?_
      refine xx_getr (fi := 0) C 44 rfl (by decide) (ceM_0 _ _ _) rfl in_X12 (by decide) rfl rfl w_1171 dX12_sweeps_41 ?_
      refine xx_bipush C 46 rfl dX12_sweeps_44 (by decide) ?_
      refine xx_iload_n C 47 rfl 1 dX12_sweeps_46 rfl rfl ?_
      refine xx_iadd C 48 rfl dX12_sweeps_47 ?_
      refine xx_iconst C 49 rfl dX12_sweeps_48 ?_
      refine xx_iastore C 50 rfl (by decide) (fun _ => rfl) (by decide) dX12_sweeps_49 h (fun μ49 h => ?_)
      refine xx_sub [0] rfl ?_
      exact K50 μ49 h
    · refine xx_icmp_ne (tgt := 40) C 20 rfl dX12_sweeps_17 (by decide) h (fun h => ?_) (fun h => ?_)
      · refine xx_sub [1, 0] rfl ?_
        exact K40 () h
      · refine xx_aload_n C 21 rfl 1 dX12_sweeps_20 rfl rfl ?_
        refine xx_getr (fi := 0) C 24 rfl (by decide) (ceM_0 _ _ _) rfl in_X12 (by decide) rfl rfl w_1171 dX12_sweeps_21 ?_
        refine xx_bipush C 26 rfl dX12_sweeps_24 (by decide) ?_
        refine xx_iload_n C 27 rfl 0 dX12_sweeps_26 rfl rfl ?_
        refine xx_iadd C 28 rfl dX12_sweeps_27 ?_
        refine xx_iaload C 29 rfl (by decide) (fun _ => rfl) (by decide) dX12_sweeps_28 h (fun v28 h => ?_)
        refine xx_if_ne (tgt := 40) C 32 rfl dX12_sweeps_29 (by decide) h (fun h => ?_) (fun h => ?_)
        · refine xx_sub [1, 0] rfl ?_
          exact K40 () h
        · refine xx_aload_n C 33 rfl 1 dX12_sweeps_32 rfl rfl ?_
          refine xx_iload_n C 34 rfl 0 dX12_sweeps_33 rfl rfl ?_
          refine xx_cVv (As := [.int (iI v5)]) (st := []) (o := 0) C 37 rfl (by decide) (ceM_0 _ _ _) rfl rfl ca_X12_frees cv_X12_frees w_1371 rfl ⟨Nat.le_of_ble_eq_true rfl, Nat.le_of_ble_eq_true rfl⟩ ⟨Nat.le_of_ble_eq_true rfl, Nat.le_of_ble_eq_true rfl⟩ (Nat.le_of_ble_eq_true rfl) dX12_sweeps_34 (fun μ34 e9 => c_X12_frees _ _ μ34 e9) h (fun μ34 h => ?_) rfl
          refine xx_goto C 50 dX12_sweeps_37 (by decide) ?_
          refine xx_sub [1] rfl ?_
          exact K50 μ34 h

def f_X12_part (μ : mu_T)  : Option mu_T :=
  rd_ μ 1 293 7 (fun v7 => wr_ μ 1 293 7 (v7 + 1) (fun μ10 => rd_ μ10 1 293 0 (fun v16 => eq_ v16 2
      (bd_ (f_X12_sweeps μ10) (fun μ22 => some μ22))
      (rd_ μ10 1 293 8 (fun v34 => lt_ 0 v34
      (bd_ (f_X12_blackens μ10) (fun μ39 => some μ39))
      (bp_ (f_X12_becomeDue μ10) (fun v46 μ46 => eq_ v46 0
      (bd_ (f_X12_cutsWeak μ46) (fun μ53 => some μ53))
      (some μ46))))))))
set_option maxHeartbeats 4000000 in
set_option maxRecDepth 100000 in
theorem c_X12_part {G : gp_} {ad : Nat → Nat} (μ : mu_T)  (μr : mu_T) (h : f_X12_part μ  = some μr) : mv_ yX12_part cX12_part 1 ({ frames := 4, cells := 0, slots := 0, locals := 87 } : Room) G 9 ad (ceM G ad) [.ref (ad 0)] μ μr := by
  refine mv_in (own := "UrnHeapModel") (lv := [(0, .ref (ad 0))]) (by decide) rfl rfl (Nat.le_of_ble_eq_true rfl) (fun X C E => ?_)
  unfold f_X12_part at h
  refine xx_aload_n C 1 rfl 0 dX12_part_0 rfl rfl ?_
  refine xx_getr (fi := 0) C 4 rfl (by decide) (ceM_0 _ _ _) rfl in_X12 (by decide) rfl rfl w_1171 dX12_part_1 ?_
  refine xx_bipush C 6 rfl dX12_part_4 (by decide) ?_
  refine xx_dup2 C 7 rfl dX12_part_6 rfl rfl ?_
  refine xx_iaload C 8 rfl (by decide) (fun _ => rfl) (by decide) dX12_part_7 h (fun v7 h => ?_)
  refine xx_iconst C 9 rfl dX12_part_8 ?_
  refine xx_iadd C 10 rfl dX12_part_9 ?_
  refine xx_iastore C 11 rfl (by decide) (fun _ => rfl) (by decide) dX12_part_10 h (fun μ10 h => ?_)
  refine xx_aload_n C 12 rfl 0 dX12_part_11 rfl rfl ?_
  refine xx_getr (fi := 0) C 15 rfl (by decide) (ceM_0 _ _ _) rfl in_X12 (by decide) rfl rfl w_1171 dX12_part_12 ?_
  refine xx_iconst C 16 rfl dX12_part_15 ?_
  refine xx_iaload C 17 rfl (by decide) (fun _ => rfl) (by decide) dX12_part_16 h (fun v16 h => ?_)
  refine xx_iconst C 18 rfl dX12_part_17 ?_
  refine xx_icmp_ne (tgt := 28) C 21 rfl dX12_part_18 (by decide) h (fun h => ?_) (fun h => ?_)
  · refine xx_aload_n C 29 rfl 0 dX12_part_28 rfl rfl ?_
    refine xx_getr (fi := 0) C 32 rfl (by decide) (ceM_0 _ _ _) rfl in_X12 (by decide) rfl rfl w_1171 dX12_part_29 ?_
    refine xx_bipush C 34 rfl dX12_part_32 (by decide) ?_
    refine xx_iaload C 35 rfl (by decide) (fun _ => rfl) (by decide) dX12_part_34 h (fun v34 h => ?_)
    refine xx_if_le (tgt := 45) C 38 rfl dX12_part_35 (by decide) h (fun h => ?_) (fun h => ?_)
    · refine xx_aload_n C 46 rfl 0 dX12_part_45 rfl rfl ?_
      refine xx_cVi (As := []) (st := []) (o := 0) C 49 rfl (by decide) (ceM_0 _ _ _) rfl rfl ca_X12_becomeDue cv_X12_becomeDue w_1379 rfl ⟨Nat.le_of_ble_eq_true rfl, Nat.le_of_ble_eq_true rfl⟩ ⟨Nat.le_of_ble_eq_true rfl, Nat.le_of_ble_eq_true rfl⟩ (Nat.le_of_ble_eq_true rfl) dX12_part_46 (fun v46 μ46 e9 => c_X12_becomeDue _ v46 μ46 e9) h (fun v46 μ46 h => ?_) rfl
      refine xx_if_ne (tgt := 56) C 52 rfl dX12_part_49 (by decide) h (fun h => ?_) (fun h => ?_)
      · exact xx_vret C E rfl ⟨Nat.le_of_ble_eq_true rfl, Nat.le_of_ble_eq_true rfl⟩ dX12_part_56 h
      · refine xx_aload_n C 53 rfl 0 dX12_part_52 rfl rfl ?_
        refine xx_cVv (As := []) (st := []) (o := 0) C 56 rfl (by decide) (ceM_0 _ _ _) rfl rfl ca_X12_cutsWeak cv_X12_cutsWeak w_1383 rfl ⟨Nat.le_of_ble_eq_true rfl, Nat.le_of_ble_eq_true rfl⟩ ⟨Nat.le_of_ble_eq_true rfl, Nat.le_of_ble_eq_true rfl⟩ (Nat.le_of_ble_eq_true rfl) dX12_part_53 (fun μ53 e9 => c_X12_cutsWeak _ μ53 e9) h (fun μ53 h => ?_) rfl
        exact xx_vret C E rfl ⟨Nat.le_of_ble_eq_true rfl, Nat.le_of_ble_eq_true rfl⟩ dX12_part_56 h
    · refine xx_aload_n C 39 rfl 0 dX12_part_38 rfl rfl ?_
      refine xx_cVv (As := []) (st := []) (o := 0) C 42 rfl (by decide) (ceM_0 _ _ _) rfl rfl ca_X12_blackens cv_X12_blackens w_1375 rfl ⟨Nat.le_of_ble_eq_true rfl, Nat.le_of_ble_eq_true rfl⟩ ⟨Nat.le_of_ble_eq_true rfl, Nat.le_of_ble_eq_true rfl⟩ (Nat.le_of_ble_eq_true rfl) dX12_part_39 (fun μ39 e9 => c_X12_blackens _ μ39 e9) h (fun μ39 h => ?_) rfl
      refine xx_goto C 56 dX12_part_42 (by decide) ?_
      exact xx_vret C E rfl ⟨Nat.le_of_ble_eq_true rfl, Nat.le_of_ble_eq_true rfl⟩ dX12_part_56 h
  · refine xx_aload_n C 22 rfl 0 dX12_part_21 rfl rfl ?_
    refine xx_cVv (As := []) (st := []) (o := 0) C 25 rfl (by decide) (ceM_0 _ _ _) rfl rfl ca_X12_sweeps cv_X12_sweeps w_1367 rfl ⟨Nat.le_of_ble_eq_true rfl, Nat.le_of_ble_eq_true rfl⟩ ⟨Nat.le_of_ble_eq_true rfl, Nat.le_of_ble_eq_true rfl⟩ (Nat.le_of_ble_eq_true rfl) dX12_part_22 (fun μ22 e9 => c_X12_sweeps _ μ22 e9) h (fun μ22 h => ?_) rfl
    refine xx_goto C 56 dX12_part_25 (by decide) ?_
    exact xx_vret C E rfl ⟨Nat.le_of_ble_eq_true rfl, Nat.le_of_ble_eq_true rfl⟩ dX12_part_56 h

def f_X12_partsOn_L2 (a1 : Int) : Nat → Int → mu_T → Option (Int × mu_T)
  | 0, _, _ => none
  | fu2 + 1, x2_2, μ2 => lt_ x2_2 a1
      (rd_ μ2 1 293 0 (fun v12 => lt_ 0 v12
      (bd_ (f_X12_part μ2) (fun μ17 => nm_ (x2_2 + 1) (fun n20 => (f_X12_partsOn_L2 a1 fu2) n20 μ17)))
      (some (x2_2, μ2))))
      (some (x2_2, μ2))
def f_X12_partsOn (μ : mu_T) (a1 : Int) : Option (Int × mu_T) :=
  f_X12_partsOn_L2 a1 20000 0 μ
set_option maxHeartbeats 4000000 in
set_option maxRecDepth 100000 in
theorem c_X12_partsOn {G : gp_} {ad : Nat → Nat} (μ : mu_T) (a1 : Int) (a : Int) (μr : mu_T) (h : f_X12_partsOn μ a1 = some (a, μr)) : mi_ yX12_partsOn cX12_partsOn 3 (some .int) ({ frames := 5, cells := 0, slots := 0, locals := 107 } : Room) G 9 ad (ceM G ad) [.ref (ad 0), .int (iI a1)] μ a μr := by
  refine mi_in (own := "UrnHeapModel") (lv := [(0, .ref (ad 0)), (1, .int (iI a1))]) (by decide) rfl rfl (Nat.le_of_ble_eq_true rfl) (fun X C E => ?_)
  unfold f_X12_partsOn at h
  refine xx_iconst C 1 rfl dX12_partsOn_0 ?_
  refine xx_istore_n (lv1 := [(2, .int (iI 0)), (0, .ref (ad 0)), (1, .int (iI a1))]) C 2 rfl (by decide) dX12_partsOn_1 rfl rfl ?_
  have L2 : ∀ (fu2 : Nat) (x2_2 : Int) (μ2 : mu_T), f_X12_partsOn_L2 a1 fu2 x2_2 μ2 = some (a, μr) → wx_ G X 9 ad (ceM G ad) μ2 0 0 2 [(0, .ref (ad 0)), (1, .int (iI a1)), (2, .int (iI x2_2))] [] := by
    intro fu2
    induction fu2 with
    | zero => intro x2_2 μ2 h; exact nn_ h
    | succ fu2 K2 =>
      intro x2_2 μ2 h
      rw [f_X12_partsOn_L2] at h
      generalize f_X12_partsOn_L2 a1 fu2 = R2 at K2 h
      refine xx_iload_n C 3 rfl 2 dX12_partsOn_2 rfl rfl ?_
      refine xx_iload_n C 4 rfl 1 dX12_partsOn_3 rfl rfl ?_
      refine xx_icmp_ge (tgt := 26) C 7 rfl dX12_partsOn_4 (by decide) h (fun h => ?_) (fun h => ?_)
      · refine xx_iload_n C 27 rfl 2 dX12_partsOn_26 rfl rfl ?_
        exact xx_iret C E rfl ⟨Nat.le_of_ble_eq_true rfl, Nat.le_of_ble_eq_true rfl⟩ dX12_partsOn_27 h
      · refine xx_aload_n C 8 rfl 0 dX12_partsOn_7 rfl rfl ?_
        refine xx_getr (fi := 0) C 11 rfl (by decide) (ceM_0 _ _ _) rfl in_X12 (by decide) rfl rfl w_1171 dX12_partsOn_8 ?_
        refine xx_iconst C 12 rfl dX12_partsOn_11 ?_
        refine xx_iaload C 13 rfl (by decide) (fun _ => rfl) (by decide) dX12_partsOn_12 h (fun v12 h => ?_)
        refine xx_if_le (tgt := 26) C 16 rfl dX12_partsOn_13 (by decide) h (fun h => ?_) (fun h => ?_)
        · refine xx_iload_n C 27 rfl 2 dX12_partsOn_26 rfl rfl ?_
          exact xx_iret C E rfl ⟨Nat.le_of_ble_eq_true rfl, Nat.le_of_ble_eq_true rfl⟩ dX12_partsOn_27 h
        · refine xx_aload_n C 17 rfl 0 dX12_partsOn_16 rfl rfl ?_
          refine xx_cVv (As := []) (st := []) (o := 0) C 20 rfl (by decide) (ceM_0 _ _ _) rfl rfl ca_X12_part cv_X12_part w_1363 rfl ⟨Nat.le_of_ble_eq_true rfl, Nat.le_of_ble_eq_true rfl⟩ ⟨Nat.le_of_ble_eq_true rfl, Nat.le_of_ble_eq_true rfl⟩ (Nat.le_of_ble_eq_true rfl) dX12_partsOn_17 (fun μ17 e9 => c_X12_part _ μ17 e9) h (fun μ17 h => ?_) rfl
          refine xx_iincn C 23 rfl 2 (by decide) dX12_partsOn_20 rfl h (fun n20 h => ?_)
          refine xx_lv (lv1 := [(2, .int (iI n20)), (0, .ref (ad 0)), (1, .int (iI a1))]) rfl ?_
          refine xx_goto C 2 dX12_partsOn_23 (by decide) ?_
          refine xx_sub [1, 2, 0] rfl ?_
          exact K2 n20 μ17 h
  refine xx_sub [1, 2, 0] rfl ?_
  exact L2 _ _ _ h

def f_X12_makes_L2 (J27 : Int → Option (Int × mu_T)) (μ : mu_T) : Nat → Int → Option (Int × mu_T)
  | 0, _ => none
  | fu2 + 1, x2_2 => lt_ x2_2 24
      (rd_ μ 1 293 (17 + x2_2) (fun v16 => eq_ v16 1
      (nm_ (x2_2 + 1) (fun n21 => (f_X12_makes_L2 J27 μ fu2) n21))
      (J27 x2_2)))
      (J27 x2_2)
def f_X12_makes (μ : mu_T) (a1 : Int) : Option (Int × mu_T) :=
  jn_ (φ := Int → Option (Int × mu_T)) (fun x2_27 => eq_ x2_27 24
      (bp_ (f_X12_refused μ 1 24) (fun v37 μ37 => some (v37, μ37)))
      (wr_ μ 1 293 (17 + x2_27) 1 (fun μ50 => jn_ (φ := Int → Option (Int × mu_T)) (fun s0_68 => wr_ μ50 1 293 (65 + x2_27) s0_68 (fun μ68 => rd_ μ68 1 293 2 (fun v82 => wr_ μ68 1 293 (89 + x2_27) v82 (fun μ83 => rd_ μ83 1 293 0 (fun v97 => jn_ (φ := Int → Option (Int × mu_T)) (fun s0_127 => wr_ μ83 1 293 (41 + x2_27) s0_127 (fun μ127 => rd_ μ127 1 293 3 (fun v134 => wr_ μ127 1 293 3 (v134 + 1) (fun μ137 => bp_ (f_X12_done μ137 x2_27) (fun v140 μ140 => some (v140, μ140))))))
      (fun J127 => jn_ (φ := Unit → Option (Int × mu_T)) (fun _ => J127 2)
      (fun J122 => eq_ v97 1
      (J122 ())
      (rd_ μ83 1 293 0 (fun v107 => jn_ (φ := Unit → Option (Int × mu_T)) (fun _ => J127 0)
      (fun J126 => eq_ v107 2
      (rd_ μ83 1 293 1 (fun v118 => lt_ x2_27 v118
      (J126 ())
      (J122 ())))
      (J126 ())))))))))))
      (fun J68 => eq_ a1 0
      (J68 0)
      (J68 1)))))
      (fun J27 => f_X12_makes_L2 J27 μ 20000 0)
set_option maxHeartbeats 4000000 in
set_option maxRecDepth 100000 in
theorem c_X12_makes {G : gp_} {ad : Nat → Nat} (μ : mu_T) (a1 : Int) (a : Int) (μr : mu_T) (h : f_X12_makes μ a1 = some (a, μr)) : mi_ yX12_makes cX12_makes 3 (some .int) ({ frames := 1, cells := 0, slots := 0, locals := 22 } : Room) G 9 ad (ceM G ad) [.ref (ad 0), .int (iI a1)] μ a μr := by
  refine mi_in (own := "UrnHeapModel") (lv := [(0, .ref (ad 0)), (1, .int (iI a1))]) (by decide) rfl rfl (Nat.le_of_ble_eq_true rfl) (fun X C E => ?_)
  unfold f_X12_makes at h
  refine xx_iconst C 1 rfl dX12_makes_0 ?_
  refine xx_istore_n (lv1 := [(2, .int (iI 0)), (0, .ref (ad 0)), (1, .int (iI a1))]) C 2 rfl (by decide) dX12_makes_1 rfl rfl ?_
  refine jn_r (fun J => ∀ (x2_27 : Int), J x2_27 = some (a, μr) → wx_ G X 9 ad (ceM G ad) μ 0 0 27 [(0, .ref (ad 0)), (1, .int (iI a1)), (2, .int (iI x2_27))] []) h (fun x2_27 h => ?_) (fun J27 K27 h => ?_)
  · refine xx_iload_n C 28 rfl 2 dX12_makes_27 rfl rfl ?_
    refine xx_bipush C 30 rfl dX12_makes_28 (by decide) ?_
    refine xx_icmp_ne (tgt := 41) C 33 rfl dX12_makes_30 (by decide) h (fun h => ?_) (fun h => ?_)
    · refine xx_aload_n C 42 rfl 0 dX12_makes_41 rfl rfl ?_
      refine xx_getr (fi := 0) C 45 rfl (by decide) (ceM_0 _ _ _) rfl in_X12 (by decide) rfl rfl w_1171 dX12_makes_42 ?_
      refine xx_bipush C 47 rfl dX12_makes_45 (by decide) ?_
      refine xx_iload_n C 48 rfl 2 dX12_makes_47 rfl rfl ?_
      refine xx_iadd C 49 rfl dX12_makes_48 ?_
      refine xx_iconst C 50 rfl dX12_makes_49 ?_
      refine xx_iastore C 51 rfl (by decide) (fun _ => rfl) (by decide) dX12_makes_50 h (fun μ50 h => ?_)
      refine xx_aload_n C 52 rfl 0 dX12_makes_51 rfl rfl ?_
      refine xx_getr (fi := 0) C 55 rfl (by decide) (ceM_0 _ _ _) rfl in_X12 (by decide) rfl rfl w_1171 dX12_makes_52 ?_
      refine xx_bipush C 57 rfl dX12_makes_55 (by decide) ?_
      refine xx_iload_n C 58 rfl 2 dX12_makes_57 rfl rfl ?_
      refine xx_iadd C 59 rfl dX12_makes_58 ?_
      refine xx_iload_n C 60 rfl 1 dX12_makes_59 rfl rfl ?_
      refine jn_r (fun J => ∀ (s0_68 : Int), J s0_68 = some (a, μr) → wx_ G X 9 ad (ceM G ad) μ50 0 0 68 [(0, .ref (ad 0)), (2, .int (iI x2_27))] [.int (iI s0_68), .int (iI (65 + x2_27)), .ref (ad 1)]) h (fun s0_68 h => ?_) (fun J68 K68 h => ?_)
      · refine xx_iastore C 69 rfl (by decide) (fun _ => rfl) (by decide) dX12_makes_68 h (fun μ68 h => ?_)
        refine xx_aload_n C 70 rfl 0 dX12_makes_69 rfl rfl ?_
        refine xx_getr (fi := 0) C 73 rfl (by decide) (ceM_0 _ _ _) rfl in_X12 (by decide) rfl rfl w_1171 dX12_makes_70 ?_
        refine xx_bipush C 75 rfl dX12_makes_73 (by decide) ?_
        refine xx_iload_n C 76 rfl 1 dX12_makes_75 rfl rfl ?_
        refine xx_iadd C 77 rfl dX12_makes_76 ?_
        refine xx_aload_n C 78 rfl 0 dX12_makes_77 rfl rfl ?_
        refine xx_getr (fi := 0) C 81 rfl (by decide) (ceM_0 _ _ _) rfl in_X12 (by decide) rfl rfl w_1171 dX12_makes_78 ?_
        refine xx_iconst C 82 rfl dX12_makes_81 ?_
        refine xx_iaload C 83 rfl (by decide) (fun _ => rfl) (by decide) dX12_makes_82 h (fun v82 h => ?_)
        refine xx_iastore C 84 rfl (by decide) (fun _ => rfl) (by decide) dX12_makes_83 h (fun μ83 h => ?_)
        refine xx_aload_n C 85 rfl 0 dX12_makes_84 rfl rfl ?_
        refine xx_getr (fi := 0) C 88 rfl (by decide) (ceM_0 _ _ _) rfl in_X12 (by decide) rfl rfl w_1171 dX12_makes_85 ?_
        refine xx_bipush C 90 rfl dX12_makes_88 (by decide) ?_
        refine xx_iload_n C 91 rfl 1 dX12_makes_90 rfl rfl ?_
        refine xx_iadd C 92 rfl dX12_makes_91 ?_
        refine xx_aload_n C 93 rfl 0 dX12_makes_92 rfl rfl ?_
        refine xx_getr (fi := 0) C 96 rfl (by decide) (ceM_0 _ _ _) rfl in_X12 (by decide) rfl rfl w_1171 dX12_makes_93 ?_
        refine xx_iconst C 97 rfl dX12_makes_96 ?_
        refine xx_iaload C 98 rfl (by decide) (fun _ => rfl) (by decide) dX12_makes_97 h (fun v97 h => ?_)
        refine xx_iconst C 99 rfl dX12_makes_98 ?_
        refine jn_r (fun J => ∀ (s0_127 : Int), J s0_127 = some (a, μr) → wx_ G X 9 ad (ceM G ad) μ83 0 0 127 [(0, .ref (ad 0)), (2, .int (iI x2_27))] [.int (iI s0_127), .int (iI (41 + x2_27)), .ref (ad 1)]) h (fun s0_127 h => ?_) (fun J127 K127 h => ?_)
        · refine xx_iastore C 128 rfl (by decide) (fun _ => rfl) (by decide) dX12_makes_127 h (fun μ127 h => ?_)
          refine xx_aload_n C 129 rfl 0 dX12_makes_128 rfl rfl ?_
          refine xx_getr (fi := 0) C 132 rfl (by decide) (ceM_0 _ _ _) rfl in_X12 (by decide) rfl rfl w_1171 dX12_makes_129 ?_
          refine xx_iconst C 133 rfl dX12_makes_132 ?_
          refine xx_dup2 C 134 rfl dX12_makes_133 rfl rfl ?_
          refine xx_iaload C 135 rfl (by decide) (fun _ => rfl) (by decide) dX12_makes_134 h (fun v134 h => ?_)
          refine xx_iconst C 136 rfl dX12_makes_135 ?_
          refine xx_iadd C 137 rfl dX12_makes_136 ?_
          refine xx_iastore C 138 rfl (by decide) (fun _ => rfl) (by decide) dX12_makes_137 h (fun μ137 h => ?_)
          refine xx_aload_n C 139 rfl 0 dX12_makes_138 rfl rfl ?_
          refine xx_iload_n C 140 rfl 1 dX12_makes_139 rfl rfl ?_
          refine xx_cVi (As := [.int (iI x2_27)]) (st := []) (o := 0) C 143 rfl (by decide) (ceM_0 _ _ _) rfl rfl ca_X12_done cv_X12_done w_1248 rfl ⟨Nat.le_of_ble_eq_true rfl, Nat.le_of_ble_eq_true rfl⟩ ⟨Nat.le_of_ble_eq_true rfl, Nat.le_of_ble_eq_true rfl⟩ (Nat.le_of_ble_eq_true rfl) dX12_makes_140 (fun v140 μ140 e9 => c_X12_done _ _ v140 μ140 e9) h (fun v140 μ140 h => ?_) rfl
          exact xx_iret C E rfl ⟨Nat.le_of_ble_eq_true rfl, Nat.le_of_ble_eq_true rfl⟩ dX12_makes_143 h
        · refine jn_r (fun J => ∀ (_u : Unit), J _u = some (a, μr) → wx_ G X 9 ad (ceM G ad) μ83 0 0 122 [(0, .ref (ad 0)), (2, .int (iI x2_27))] [.int (iI (41 + x2_27)), .ref (ad 1)]) h (fun _ h => ?_) (fun J122 K122 h => ?_)
          · refine xx_iconst C 123 rfl dX12_makes_122 ?_
            refine xx_goto C 127 dX12_makes_123 (by decide) ?_
            exact K127 2 h
          · refine xx_icmp_eq (tgt := 122) C 102 rfl dX12_makes_99 (by decide) h (fun h => ?_) (fun h => ?_)
            · exact K122 () h
            · refine xx_aload_n C 103 rfl 0 dX12_makes_102 rfl rfl ?_
              refine xx_getr (fi := 0) C 106 rfl (by decide) (ceM_0 _ _ _) rfl in_X12 (by decide) rfl rfl w_1171 dX12_makes_103 ?_
              refine xx_iconst C 107 rfl dX12_makes_106 ?_
              refine xx_iaload C 108 rfl (by decide) (fun _ => rfl) (by decide) dX12_makes_107 h (fun v107 h => ?_)
              refine xx_iconst C 109 rfl dX12_makes_108 ?_
              refine jn_r (fun J => ∀ (_u : Unit), J _u = some (a, μr) → wx_ G X 9 ad (ceM G ad) μ83 0 0 126 [(0, .ref (ad 0)), (2, .int (iI x2_27))] [.int (iI (41 + x2_27)), .ref (ad 1)]) h (fun _ h => ?_) (fun J126 K126 h => ?_)
              · refine xx_iconst C 127 rfl dX12_makes_126 ?_
                exact K127 0 h
              · refine xx_icmp_ne (tgt := 126) C 112 rfl dX12_makes_109 (by decide) h (fun h => ?_) (fun h => ?_)
                · exact K126 () h
                · refine xx_iload_n C 113 rfl 1 dX12_makes_112 rfl rfl ?_
                  refine xx_aload_n C 114 rfl 0 dX12_makes_113 rfl rfl ?_
                  refine xx_getr (fi := 0) C 117 rfl (by decide) (ceM_0 _ _ _) rfl in_X12 (by decide) rfl rfl w_1171 dX12_makes_114 ?_
                  refine xx_iconst C 118 rfl dX12_makes_117 ?_
                  refine xx_iaload C 119 rfl (by decide) (fun _ => rfl) (by decide) dX12_makes_118 h (fun v118 h => ?_)
                  refine xx_icmp_lt (tgt := 126) C 122 rfl dX12_makes_119 (by decide) h (fun h => ?_) (fun h => ?_)
                  · exact K126 () h
                  · exact K122 () h
      · refine xx_if_eq (tgt := 67) C 63 rfl dX12_makes_60 (by decide) h (fun h => ?_) (fun h => ?_)
        · refine xx_iconst C 68 rfl dX12_makes_67 ?_
          refine xx_sub [0, 2] rfl ?_
          exact K68 0 h
        · refine xx_iconst C 64 rfl dX12_makes_63 ?_
          refine xx_goto C 68 dX12_makes_64 (by decide) ?_
          refine xx_sub [0, 2] rfl ?_
          exact K68 1 h
    · refine xx_aload_n C 34 rfl 0 dX12_makes_33 rfl rfl ?_
      refine xx_iconst C 35 rfl dX12_makes_34 ?_
      refine xx_bipush C 37 rfl dX12_makes_35 (by decide) ?_
      refine xx_cVi (As := [.int (iI 1), .int (iI 24)]) (st := []) (o := 0) C 40 rfl (by decide) (ceM_0 _ _ _) rfl rfl ca_X12_refused cv_X12_refused w_1244 rfl ⟨Nat.le_of_ble_eq_true rfl, Nat.le_of_ble_eq_true rfl⟩ ⟨Nat.le_of_ble_eq_true rfl, Nat.le_of_ble_eq_true rfl⟩ (Nat.le_of_ble_eq_true rfl) dX12_makes_37 (fun v37 μ37 e9 => c_X12_refused _ _ _ v37 μ37 e9) h (fun v37 μ37 h => ?_) rfl
      exact xx_iret C E rfl ⟨Nat.le_of_ble_eq_true rfl, Nat.le_of_ble_eq_true rfl⟩ dX12_makes_40 h
  · have L2 : ∀ (fu2 : Nat) (x2_2 : Int), f_X12_makes_L2 J27 μ fu2 x2_2 = some (a, μr) → wx_ G X 9 ad (ceM G ad) μ 0 0 2 [(0, .ref (ad 0)), (1, .int (iI a1)), (2, .int (iI x2_2))] [] := by
      intro fu2
      induction fu2 with
      | zero => intro x2_2 h; exact nn_ h
      | succ fu2 K2 =>
        intro x2_2 h
        rw [f_X12_makes_L2] at h
        generalize f_X12_makes_L2 J27 μ fu2 = R2 at K2 h
        refine xx_iload_n C 3 rfl 2 dX12_makes_2 rfl rfl ?_
        refine xx_bipush C 5 rfl dX12_makes_3 (by decide) ?_
        refine xx_icmp_ge (tgt := 27) C 8 rfl dX12_makes_5 (by decide) h (fun h => ?_) (fun h => ?_)
        · exact K27 x2_2 h
        · refine xx_aload_n C 9 rfl 0 dX12_makes_8 rfl rfl ?_
          refine xx_getr (fi := 0) C 12 rfl (by decide) (ceM_0 _ _ _) rfl in_X12 (by decide) rfl rfl w_1171 dX12_makes_9 ?_
          refine xx_bipush C 14 rfl dX12_makes_12 (by decide) ?_
          refine xx_iload_n C 15 rfl 2 dX12_makes_14 rfl rfl ?_
          refine xx_iadd C 16 rfl dX12_makes_15 ?_
          refine xx_iaload C 17 rfl (by decide) (fun _ => rfl) (by decide) dX12_makes_16 h (fun v16 h => ?_)
          refine xx_iconst C 18 rfl dX12_makes_17 ?_
          refine xx_icmp_ne (tgt := 27) C 21 rfl dX12_makes_18 (by decide) h (fun h => ?_) (fun h => ?_)
          · exact K27 x2_2 h
          · refine xx_iincn C 24 rfl 2 (by decide) dX12_makes_21 rfl h (fun n21 h => ?_)
            refine xx_lv (lv1 := [(2, .int (iI n21)), (0, .ref (ad 0)), (1, .int (iI a1))]) rfl ?_
            refine xx_goto C 2 dX12_makes_24 (by decide) ?_
            refine xx_sub [1, 2, 0] rfl ?_
            exact K2 n21 h
    refine xx_sub [1, 2, 0] rfl ?_
    exact L2 _ _ h

def f_X12_ties (μ : mu_T) (a1 : Int) (a2 : Int) (a3 : Int) : Option (Int × mu_T) :=
  bd_ (f_X12_isUrn μ a1) (fun v2 => eq_ v2 0
      (some ((-11), μ))
      (bd_ (f_X12_in μ a2 0 3) (fun v11 => eq_ v11 0
      (some ((-11), μ))
      (bd_ (f_X12_isUrn μ a3) (fun v19 => eq_ v19 0
      (some ((-11), μ))
      (bd_ (f_X12_isDoomed μ a1) (fun v30 => eq_ v30 0
      (bd_ (f_X12_isDoomed μ a3) (fun v46 => eq_ v46 0
      (bd_ (f_X12_at μ a1 a2) (fun v66 => rd_ μ 1 293 v66 (fun v69 => bd_ (f_X12_at μ a1 a2) (fun v78 => wr_ μ 1 293 v78 a3 (fun μ82 => rd_ μ82 1 293 0 (fun v88 => eq_ v88 1
      (rd_ μ82 1 293 (41 + a1) (fun v101 => eq_ v101 2
      (bd_ (f_X12_greysIfWhite μ82 a3) (fun μ108 => bp_ (f_X12_done μ108 v69) (fun v114 μ114 => some (v114, μ114))))
      (bp_ (f_X12_done μ82 v69) (fun v114 μ114 => some (v114, μ114)))))
      (bp_ (f_X12_done μ82 v69) (fun v114 μ114 => some (v114, μ114)))))))))
      (bp_ (f_X12_refused μ 7 a3) (fun v56 μ56 => some (v56, μ56)))))
      (bp_ (f_X12_refused μ 7 a1) (fun v40 μ40 => some (v40, μ40))))))))))
set_option maxHeartbeats 4000000 in
set_option maxRecDepth 100000 in
theorem c_X12_ties {G : gp_} {ad : Nat → Nat} (μ : mu_T) (a1 : Int) (a2 : Int) (a3 : Int) (a : Int) (μr : mu_T) (h : f_X12_ties μ a1 a2 a3 = some (a, μr)) : mi_ yX12_ties cX12_ties 5 (some .int) ({ frames := 2, cells := 0, slots := 0, locals := 43 } : Room) G 9 ad (ceM G ad) [.ref (ad 0), .int (iI a1), .int (iI a2), .int (iI a3)] μ a μr := by
  refine mi_in (own := "UrnHeapModel") (lv := [(0, .ref (ad 0)), (1, .int (iI a1)), (2, .int (iI a2)), (3, .int (iI a3))]) (by decide) rfl rfl (Nat.le_of_ble_eq_true rfl) (fun X C E => ?_)
  unfold f_X12_ties at h
  refine xx_aload_n C 1 rfl 0 dX12_ties_0 rfl rfl ?_
  refine xx_iload_n C 2 rfl 1 dX12_ties_1 rfl rfl ?_
  refine xx_cVip (As := [.int (iI a1)]) (st := []) (o := 0) C 5 rfl (by decide) (ceM_0 _ _ _) rfl rfl ca_X12_isUrn cv_X12_isUrn w_1268 rfl ⟨Nat.le_of_ble_eq_true rfl, Nat.le_of_ble_eq_true rfl⟩ ⟨Nat.le_of_ble_eq_true rfl, Nat.le_of_ble_eq_true rfl⟩ (Nat.le_of_ble_eq_true rfl) dX12_ties_2 (fun v2 e9 => c_X12_isUrn _ _ v2 e9) h (fun v2 h => ?_) rfl
  refine xx_if_eq (tgt := 25) C 8 rfl dX12_ties_5 (by decide) h (fun h => ?_) (fun h => ?_)
  · refine xx_bipush C 27 rfl dX12_ties_25 (by decide) ?_
    exact xx_iret C E rfl ⟨Nat.le_of_ble_eq_true rfl, Nat.le_of_ble_eq_true rfl⟩ dX12_ties_27 h
  · refine xx_iload_n C 9 rfl 2 dX12_ties_8 rfl rfl ?_
    refine xx_iconst C 10 rfl dX12_ties_9 ?_
    refine xx_iconst C 11 rfl dX12_ties_10 ?_
    refine xx_cSip (As := [.int (iI a2), .int (iI 0), .int (iI 3)]) (st := []) C 14 rfl  ca_X12_in cs_X12_in w_1272 rfl ⟨Nat.le_of_ble_eq_true rfl, Nat.le_of_ble_eq_true rfl⟩ ⟨Nat.le_of_ble_eq_true rfl, Nat.le_of_ble_eq_true rfl⟩ (Nat.le_of_ble_eq_true rfl) dX12_ties_11 (fun v11 e9 => c_X12_in _ _ _ _ v11 e9) h (fun v11 h => ?_) rfl
    refine xx_if_eq (tgt := 25) C 17 rfl dX12_ties_14 (by decide) h (fun h => ?_) (fun h => ?_)
    · refine xx_bipush C 27 rfl dX12_ties_25 (by decide) ?_
      exact xx_iret C E rfl ⟨Nat.le_of_ble_eq_true rfl, Nat.le_of_ble_eq_true rfl⟩ dX12_ties_27 h
    · refine xx_aload_n C 18 rfl 0 dX12_ties_17 rfl rfl ?_
      refine xx_iload_n C 19 rfl 3 dX12_ties_18 rfl rfl ?_
      refine xx_cVip (As := [.int (iI a3)]) (st := []) (o := 0) C 22 rfl (by decide) (ceM_0 _ _ _) rfl rfl ca_X12_isUrn cv_X12_isUrn w_1268 rfl ⟨Nat.le_of_ble_eq_true rfl, Nat.le_of_ble_eq_true rfl⟩ ⟨Nat.le_of_ble_eq_true rfl, Nat.le_of_ble_eq_true rfl⟩ (Nat.le_of_ble_eq_true rfl) dX12_ties_19 (fun v19 e9 => c_X12_isUrn _ _ v19 e9) h (fun v19 h => ?_) rfl
      refine xx_if_ne (tgt := 28) C 25 rfl dX12_ties_22 (by decide) h (fun h => ?_) (fun h => ?_)
      · refine xx_aload_n C 29 rfl 0 dX12_ties_28 rfl rfl ?_
        refine xx_iload_n C 30 rfl 1 dX12_ties_29 rfl rfl ?_
        refine xx_cVip (As := [.int (iI a1)]) (st := []) (o := 0) C 33 rfl (by decide) (ceM_0 _ _ _) rfl rfl ca_X12_isDoomed cv_X12_isDoomed w_1275 rfl ⟨Nat.le_of_ble_eq_true rfl, Nat.le_of_ble_eq_true rfl⟩ ⟨Nat.le_of_ble_eq_true rfl, Nat.le_of_ble_eq_true rfl⟩ (Nat.le_of_ble_eq_true rfl) dX12_ties_30 (fun v30 e9 => c_X12_isDoomed _ _ v30 e9) h (fun v30 h => ?_) rfl
        refine xx_if_eq (tgt := 44) C 36 rfl dX12_ties_33 (by decide) h (fun h => ?_) (fun h => ?_)
        · refine xx_aload_n C 45 rfl 0 dX12_ties_44 rfl rfl ?_
          refine xx_iload_n C 46 rfl 3 dX12_ties_45 rfl rfl ?_
          refine xx_cVip (As := [.int (iI a3)]) (st := []) (o := 0) C 49 rfl (by decide) (ceM_0 _ _ _) rfl rfl ca_X12_isDoomed cv_X12_isDoomed w_1275 rfl ⟨Nat.le_of_ble_eq_true rfl, Nat.le_of_ble_eq_true rfl⟩ ⟨Nat.le_of_ble_eq_true rfl, Nat.le_of_ble_eq_true rfl⟩ (Nat.le_of_ble_eq_true rfl) dX12_ties_46 (fun v46 e9 => c_X12_isDoomed _ _ v46 e9) h (fun v46 h => ?_) rfl
          refine xx_if_eq (tgt := 60) C 52 rfl dX12_ties_49 (by decide) h (fun h => ?_) (fun h => ?_)
          · refine xx_aload_n C 61 rfl 0 dX12_ties_60 rfl rfl ?_
            refine xx_getr (fi := 0) C 64 rfl (by decide) (ceM_0 _ _ _) rfl in_X12 (by decide) rfl rfl w_1171 dX12_ties_61 ?_
            refine xx_iload_n C 65 rfl 1 dX12_ties_64 rfl rfl ?_
            refine xx_iload_n C 66 rfl 2 dX12_ties_65 rfl rfl ?_
            refine xx_cSip (As := [.int (iI a1), .int (iI a2)]) (st := [.ref (ad 1)]) C 69 rfl  ca_X12_at cs_X12_at w_1168 rfl ⟨Nat.le_of_ble_eq_true rfl, Nat.le_of_ble_eq_true rfl⟩ ⟨Nat.le_of_ble_eq_true rfl, Nat.le_of_ble_eq_true rfl⟩ (Nat.le_of_ble_eq_true rfl) dX12_ties_66 (fun v66 e9 => c_X12_at _ _ _ v66 e9) h (fun v66 h => ?_) rfl
            refine xx_iaload C 70 rfl (by decide) (fun _ => rfl) (by decide) dX12_ties_69 h (fun v69 h => ?_)
            refine xx_istore (lv1 := [(4, .int (iI v69)), (0, .ref (ad 0)), (1, .int (iI a1)), (2, .int (iI a2)), (3, .int (iI a3))]) C 72 rfl (by decide) dX12_ties_70 rfl ?_
            refine xx_aload_n C 73 rfl 1 dX12_ties_72 rfl rfl ?_
            refine xx_getr (fi := 0) C 76 rfl (by decide) (ceM_0 _ _ _) rfl in_X12 (by decide) rfl rfl w_1171 dX12_ties_73 ?_
            refine xx_iload_n C 77 rfl 2 dX12_ties_76 rfl rfl ?_
            refine xx_iload_n C 78 rfl 3 dX12_ties_77 rfl rfl ?_
            refine xx_cSip (As := [.int (iI a1), .int (iI a2)]) (st := [.ref (ad 1)]) C 81 rfl  ca_X12_at cs_X12_at w_1168 rfl ⟨Nat.le_of_ble_eq_true rfl, Nat.le_of_ble_eq_true rfl⟩ ⟨Nat.le_of_ble_eq_true rfl, Nat.le_of_ble_eq_true rfl⟩ (Nat.le_of_ble_eq_true rfl) dX12_ties_78 (fun v78 e9 => c_X12_at _ _ _ v78 e9) h (fun v78 h => ?_) rfl
            refine xx_iload_n C 82 rfl 4 dX12_ties_81 rfl rfl ?_
            refine xx_iastore C 83 rfl (by decide) (fun _ => rfl) (by decide) dX12_ties_82 h (fun μ82 h => ?_)
            refine xx_aload_n C 84 rfl 1 dX12_ties_83 rfl rfl ?_
            refine xx_getr (fi := 0) C 87 rfl (by decide) (ceM_0 _ _ _) rfl in_X12 (by decide) rfl rfl w_1171 dX12_ties_84 ?_
            refine xx_iconst C 88 rfl dX12_ties_87 ?_
            refine xx_iaload C 89 rfl (by decide) (fun _ => rfl) (by decide) dX12_ties_88 h (fun v88 h => ?_)
            refine xx_iconst C 90 rfl dX12_ties_89 ?_
            refine xx_icmp_ne (tgt := 111) C 93 rfl dX12_ties_90 (by decide) h (fun h => ?_) (fun h => ?_)
            · refine xx_aload_n C 112 rfl 1 dX12_ties_111 rfl rfl ?_
              refine xx_iload C 114 rfl 0 dX12_ties_112 rfl ?_
              refine xx_cVi (As := [.int (iI v69)]) (st := []) (o := 0) C 117 rfl (by decide) (ceM_0 _ _ _) rfl rfl ca_X12_done cv_X12_done w_1248 rfl ⟨Nat.le_of_ble_eq_true rfl, Nat.le_of_ble_eq_true rfl⟩ ⟨Nat.le_of_ble_eq_true rfl, Nat.le_of_ble_eq_true rfl⟩ (Nat.le_of_ble_eq_true rfl) dX12_ties_114 (fun v114 μ114 e9 => c_X12_done _ _ v114 μ114 e9) h (fun v114 μ114 h => ?_) rfl
              exact xx_iret C E rfl ⟨Nat.le_of_ble_eq_true rfl, Nat.le_of_ble_eq_true rfl⟩ dX12_ties_117 h
            · refine xx_aload_n C 94 rfl 1 dX12_ties_93 rfl rfl ?_
              refine xx_getr (fi := 0) C 97 rfl (by decide) (ceM_0 _ _ _) rfl in_X12 (by decide) rfl rfl w_1171 dX12_ties_94 ?_
              refine xx_bipush C 99 rfl dX12_ties_97 (by decide) ?_
              refine xx_iload_n C 100 rfl 2 dX12_ties_99 rfl rfl ?_
              refine xx_iadd C 101 rfl dX12_ties_100 ?_
              refine xx_iaload C 102 rfl (by decide) (fun _ => rfl) (by decide) dX12_ties_101 h (fun v101 h => ?_)
              refine xx_iconst C 103 rfl dX12_ties_102 ?_
              refine xx_icmp_ne (tgt := 111) C 106 rfl dX12_ties_103 (by decide) h (fun h => ?_) (fun h => ?_)
              · refine xx_aload_n C 112 rfl 1 dX12_ties_111 rfl rfl ?_
                refine xx_iload C 114 rfl 0 dX12_ties_112 rfl ?_
                refine xx_cVi (As := [.int (iI v69)]) (st := []) (o := 0) C 117 rfl (by decide) (ceM_0 _ _ _) rfl rfl ca_X12_done cv_X12_done w_1248 rfl ⟨Nat.le_of_ble_eq_true rfl, Nat.le_of_ble_eq_true rfl⟩ ⟨Nat.le_of_ble_eq_true rfl, Nat.le_of_ble_eq_true rfl⟩ (Nat.le_of_ble_eq_true rfl) dX12_ties_114 (fun v114 μ114 e9 => c_X12_done _ _ v114 μ114 e9) h (fun v114 μ114 h => ?_) rfl
                exact xx_iret C E rfl ⟨Nat.le_of_ble_eq_true rfl, Nat.le_of_ble_eq_true rfl⟩ dX12_ties_117 h
              · refine xx_aload_n C 107 rfl 1 dX12_ties_106 rfl rfl ?_
                refine xx_iload_n C 108 rfl 4 dX12_ties_107 rfl rfl ?_
                refine xx_cVv (As := [.int (iI a3)]) (st := []) (o := 0) C 111 rfl (by decide) (ceM_0 _ _ _) rfl rfl ca_X12_greysIfWhite cv_X12_greysIfWhite w_1279 rfl ⟨Nat.le_of_ble_eq_true rfl, Nat.le_of_ble_eq_true rfl⟩ ⟨Nat.le_of_ble_eq_true rfl, Nat.le_of_ble_eq_true rfl⟩ (Nat.le_of_ble_eq_true rfl) dX12_ties_108 (fun μ108 e9 => c_X12_greysIfWhite _ _ μ108 e9) h (fun μ108 h => ?_) rfl
                refine xx_aload_n C 112 rfl 1 dX12_ties_111 rfl rfl ?_
                refine xx_iload C 114 rfl 0 dX12_ties_112 rfl ?_
                refine xx_cVi (As := [.int (iI v69)]) (st := []) (o := 0) C 117 rfl (by decide) (ceM_0 _ _ _) rfl rfl ca_X12_done cv_X12_done w_1248 rfl ⟨Nat.le_of_ble_eq_true rfl, Nat.le_of_ble_eq_true rfl⟩ ⟨Nat.le_of_ble_eq_true rfl, Nat.le_of_ble_eq_true rfl⟩ (Nat.le_of_ble_eq_true rfl) dX12_ties_114 (fun v114 μ114 e9 => c_X12_done _ _ v114 μ114 e9) h (fun v114 μ114 h => ?_) rfl
                exact xx_iret C E rfl ⟨Nat.le_of_ble_eq_true rfl, Nat.le_of_ble_eq_true rfl⟩ dX12_ties_117 h
          · refine xx_aload_n C 53 rfl 0 dX12_ties_52 rfl rfl ?_
            refine xx_bipush C 55 rfl dX12_ties_53 (by decide) ?_
            refine xx_iload_n C 56 rfl 3 dX12_ties_55 rfl rfl ?_
            refine xx_cVi (As := [.int (iI 7), .int (iI a3)]) (st := []) (o := 0) C 59 rfl (by decide) (ceM_0 _ _ _) rfl rfl ca_X12_refused cv_X12_refused w_1244 rfl ⟨Nat.le_of_ble_eq_true rfl, Nat.le_of_ble_eq_true rfl⟩ ⟨Nat.le_of_ble_eq_true rfl, Nat.le_of_ble_eq_true rfl⟩ (Nat.le_of_ble_eq_true rfl) dX12_ties_56 (fun v56 μ56 e9 => c_X12_refused _ _ _ v56 μ56 e9) h (fun v56 μ56 h => ?_) rfl
            exact xx_iret C E rfl ⟨Nat.le_of_ble_eq_true rfl, Nat.le_of_ble_eq_true rfl⟩ dX12_ties_59 h
        · refine xx_aload_n C 37 rfl 0 dX12_ties_36 rfl rfl ?_
          refine xx_bipush C 39 rfl dX12_ties_37 (by decide) ?_
          refine xx_iload_n C 40 rfl 1 dX12_ties_39 rfl rfl ?_
          refine xx_cVi (As := [.int (iI 7), .int (iI a1)]) (st := []) (o := 0) C 43 rfl (by decide) (ceM_0 _ _ _) rfl rfl ca_X12_refused cv_X12_refused w_1244 rfl ⟨Nat.le_of_ble_eq_true rfl, Nat.le_of_ble_eq_true rfl⟩ ⟨Nat.le_of_ble_eq_true rfl, Nat.le_of_ble_eq_true rfl⟩ (Nat.le_of_ble_eq_true rfl) dX12_ties_40 (fun v40 μ40 e9 => c_X12_refused _ _ _ v40 μ40 e9) h (fun v40 μ40 h => ?_) rfl
          exact xx_iret C E rfl ⟨Nat.le_of_ble_eq_true rfl, Nat.le_of_ble_eq_true rfl⟩ dX12_ties_43 h
      · refine xx_bipush C 27 rfl dX12_ties_25 (by decide) ?_
        exact xx_iret C E rfl ⟨Nat.le_of_ble_eq_true rfl, Nat.le_of_ble_eq_true rfl⟩ dX12_ties_27 h

def f_X12_unties (μ : mu_T) (a1 : Int) (a2 : Int) : Option (Int × mu_T) :=
  bd_ (f_X12_isUrn μ a1) (fun v2 => eq_ v2 0
      (some ((-11), μ))
      (bd_ (f_X12_in μ a2 0 3) (fun v11 => eq_ v11 0
      (some ((-11), μ))
      (bd_ (f_X12_at μ a1 a2) (fun v26 => rd_ μ 1 293 v26 (fun v29 => eq_ v29 (-15)
      (bp_ (f_X12_refused μ 2 a2) (fun v40 μ40 => some (v40, μ40)))
      (bd_ (f_X12_at μ a1 a2) (fun v50 => wr_ μ 1 293 v50 (-15) (fun μ55 => bp_ (f_X12_done μ55 v29) (fun v58 μ58 => some (v58, μ58)))))))))))
set_option maxHeartbeats 4000000 in
set_option maxRecDepth 100000 in
theorem c_X12_unties {G : gp_} {ad : Nat → Nat} (μ : mu_T) (a1 : Int) (a2 : Int) (a : Int) (μr : mu_T) (h : f_X12_unties μ a1 a2 = some (a, μr)) : mi_ yX12_unties cX12_unties 4 (some .int) ({ frames := 2, cells := 0, slots := 0, locals := 43 } : Room) G 9 ad (ceM G ad) [.ref (ad 0), .int (iI a1), .int (iI a2)] μ a μr := by
  refine mi_in (own := "UrnHeapModel") (lv := [(0, .ref (ad 0)), (1, .int (iI a1)), (2, .int (iI a2))]) (by decide) rfl rfl (Nat.le_of_ble_eq_true rfl) (fun X C E => ?_)
  unfold f_X12_unties at h
  refine xx_aload_n C 1 rfl 0 dX12_unties_0 rfl rfl ?_
  refine xx_iload_n C 2 rfl 1 dX12_unties_1 rfl rfl ?_
  refine xx_cVip (As := [.int (iI a1)]) (st := []) (o := 0) C 5 rfl (by decide) (ceM_0 _ _ _) rfl rfl ca_X12_isUrn cv_X12_isUrn w_1268 rfl ⟨Nat.le_of_ble_eq_true rfl, Nat.le_of_ble_eq_true rfl⟩ ⟨Nat.le_of_ble_eq_true rfl, Nat.le_of_ble_eq_true rfl⟩ (Nat.le_of_ble_eq_true rfl) dX12_unties_2 (fun v2 e9 => c_X12_isUrn _ _ v2 e9) h (fun v2 h => ?_) rfl
  refine xx_if_eq (tgt := 17) C 8 rfl dX12_unties_5 (by decide) h (fun h => ?_) (fun h => ?_)
  · refine xx_bipush C 19 rfl dX12_unties_17 (by decide) ?_
    exact xx_iret C E rfl ⟨Nat.le_of_ble_eq_true rfl, Nat.le_of_ble_eq_true rfl⟩ dX12_unties_19 h
  · refine xx_iload_n C 9 rfl 2 dX12_unties_8 rfl rfl ?_
    refine xx_iconst C 10 rfl dX12_unties_9 ?_
    refine xx_iconst C 11 rfl dX12_unties_10 ?_
    refine xx_cSip (As := [.int (iI a2), .int (iI 0), .int (iI 3)]) (st := []) C 14 rfl  ca_X12_in cs_X12_in w_1272 rfl ⟨Nat.le_of_ble_eq_true rfl, Nat.le_of_ble_eq_true rfl⟩ ⟨Nat.le_of_ble_eq_true rfl, Nat.le_of_ble_eq_true rfl⟩ (Nat.le_of_ble_eq_true rfl) dX12_unties_11 (fun v11 e9 => c_X12_in _ _ _ _ v11 e9) h (fun v11 h => ?_) rfl
    refine xx_if_ne (tgt := 20) C 17 rfl dX12_unties_14 (by decide) h (fun h => ?_) (fun h => ?_)
    · refine xx_aload_n C 21 rfl 0 dX12_unties_20 rfl rfl ?_
      refine xx_getr (fi := 0) C 24 rfl (by decide) (ceM_0 _ _ _) rfl in_X12 (by decide) rfl rfl w_1171 dX12_unties_21 ?_
      refine xx_iload_n C 25 rfl 1 dX12_unties_24 rfl rfl ?_
      refine xx_iload_n C 26 rfl 2 dX12_unties_25 rfl rfl ?_
      refine xx_cSip (As := [.int (iI a1), .int (iI a2)]) (st := [.ref (ad 1)]) C 29 rfl  ca_X12_at cs_X12_at w_1168 rfl ⟨Nat.le_of_ble_eq_true rfl, Nat.le_of_ble_eq_true rfl⟩ ⟨Nat.le_of_ble_eq_true rfl, Nat.le_of_ble_eq_true rfl⟩ (Nat.le_of_ble_eq_true rfl) dX12_unties_26 (fun v26 e9 => c_X12_at _ _ _ v26 e9) h (fun v26 h => ?_) rfl
      refine xx_iaload C 30 rfl (by decide) (fun _ => rfl) (by decide) dX12_unties_29 h (fun v29 h => ?_)
      refine xx_istore_n (lv1 := [(3, .int (iI v29)), (0, .ref (ad 0)), (1, .int (iI a1)), (2, .int (iI a2))]) C 31 rfl (by decide) dX12_unties_30 rfl rfl ?_
      refine xx_iload_n C 32 rfl 0 dX12_unties_31 rfl rfl ?_
      refine xx_bipush C 34 rfl dX12_unties_32 (by decide) ?_
      refine xx_icmp_ne (tgt := 44) C 37 rfl dX12_unties_34 (by decide) h (fun h => ?_) (fun h => ?_)
      · refine xx_aload_n C 45 rfl 1 dX12_unties_44 rfl rfl ?_
        refine xx_getr (fi := 0) C 48 rfl (by decide) (ceM_0 _ _ _) rfl in_X12 (by decide) rfl rfl w_1171 dX12_unties_45 ?_
        refine xx_iload_n C 49 rfl 2 dX12_unties_48 rfl rfl ?_
        refine xx_iload_n C 50 rfl 3 dX12_unties_49 rfl rfl ?_
        refine xx_cSip (As := [.int (iI a1), .int (iI a2)]) (st := [.ref (ad 1)]) C 53 rfl  ca_X12_at cs_X12_at w_1168 rfl ⟨Nat.le_of_ble_eq_true rfl, Nat.le_of_ble_eq_true rfl⟩ ⟨Nat.le_of_ble_eq_true rfl, Nat.le_of_ble_eq_true rfl⟩ (Nat.le_of_ble_eq_true rfl) dX12_unties_50 (fun v50 e9 => c_X12_at _ _ _ v50 e9) h (fun v50 h => ?_) rfl
        refine xx_bipush C 55 rfl dX12_unties_53 (by decide) ?_
        refine xx_iastore C 56 rfl (by decide) (fun _ => rfl) (by decide) dX12_unties_55 h (fun μ55 h => ?_)
        refine xx_aload_n C 57 rfl 1 dX12_unties_56 rfl rfl ?_
        refine xx_iload_n C 58 rfl 0 dX12_unties_57 rfl rfl ?_
        refine xx_cVi (As := [.int (iI v29)]) (st := []) (o := 0) C 61 rfl (by decide) (ceM_0 _ _ _) rfl rfl ca_X12_done cv_X12_done w_1248 rfl ⟨Nat.le_of_ble_eq_true rfl, Nat.le_of_ble_eq_true rfl⟩ ⟨Nat.le_of_ble_eq_true rfl, Nat.le_of_ble_eq_true rfl⟩ (Nat.le_of_ble_eq_true rfl) dX12_unties_58 (fun v58 μ58 e9 => c_X12_done _ _ v58 μ58 e9) h (fun v58 μ58 h => ?_) rfl
        exact xx_iret C E rfl ⟨Nat.le_of_ble_eq_true rfl, Nat.le_of_ble_eq_true rfl⟩ dX12_unties_61 h
      · refine xx_aload_n C 38 rfl 1 dX12_unties_37 rfl rfl ?_
        refine xx_iconst C 39 rfl dX12_unties_38 ?_
        refine xx_iload_n C 40 rfl 3 dX12_unties_39 rfl rfl ?_
        refine xx_cVi (As := [.int (iI 2), .int (iI a2)]) (st := []) (o := 0) C 43 rfl (by decide) (ceM_0 _ _ _) rfl rfl ca_X12_refused cv_X12_refused w_1244 rfl ⟨Nat.le_of_ble_eq_true rfl, Nat.le_of_ble_eq_true rfl⟩ ⟨Nat.le_of_ble_eq_true rfl, Nat.le_of_ble_eq_true rfl⟩ (Nat.le_of_ble_eq_true rfl) dX12_unties_40 (fun v40 μ40 e9 => c_X12_refused _ _ _ v40 μ40 e9) h (fun v40 μ40 h => ?_) rfl
        exact xx_iret C E rfl ⟨Nat.le_of_ble_eq_true rfl, Nat.le_of_ble_eq_true rfl⟩ dX12_unties_43 h
    · refine xx_bipush C 19 rfl dX12_unties_17 (by decide) ?_
      exact xx_iret C E rfl ⟨Nat.le_of_ble_eq_true rfl, Nat.le_of_ble_eq_true rfl⟩ dX12_unties_19 h

def f_X12_weakens (μ : mu_T) (a1 : Int) (a2 : Int) : Option (Int × mu_T) :=
  bd_ (f_X12_isUrn μ a1) (fun v2 => eq_ v2 0
      (some ((-11), μ))
      (bd_ (f_X12_isUrn μ a2) (fun v10 => eq_ v10 0
      (some ((-11), μ))
      (bd_ (f_X12_isDoomed μ a1) (fun v21 => eq_ v21 0
      (bd_ (f_X12_isDoomed μ a2) (fun v37 => eq_ v37 0
      (rd_ μ 1 293 (113 + a1) (fun v59 => wr_ μ 1 293 (113 + a1) a2 (fun μ70 => bp_ (f_X12_done μ70 v59) (fun v73 μ73 => some (v73, μ73)))))
      (bp_ (f_X12_refused μ 7 a2) (fun v47 μ47 => some (v47, μ47)))))
      (bp_ (f_X12_refused μ 7 a1) (fun v31 μ31 => some (v31, μ31))))))))
set_option maxHeartbeats 4000000 in
set_option maxRecDepth 100000 in
theorem c_X12_weakens {G : gp_} {ad : Nat → Nat} (μ : mu_T) (a1 : Int) (a2 : Int) (a : Int) (μr : mu_T) (h : f_X12_weakens μ a1 a2 = some (a, μr)) : mi_ yX12_weakens cX12_weakens 4 (some .int) ({ frames := 2, cells := 0, slots := 0, locals := 43 } : Room) G 9 ad (ceM G ad) [.ref (ad 0), .int (iI a1), .int (iI a2)] μ a μr := by
  refine mi_in (own := "UrnHeapModel") (lv := [(0, .ref (ad 0)), (1, .int (iI a1)), (2, .int (iI a2))]) (by decide) rfl rfl (Nat.le_of_ble_eq_true rfl) (fun X C E => ?_)
  unfold f_X12_weakens at h
  refine xx_aload_n C 1 rfl 0 dX12_weakens_0 rfl rfl ?_
  refine xx_iload_n C 2 rfl 1 dX12_weakens_1 rfl rfl ?_
  refine xx_cVip (As := [.int (iI a1)]) (st := []) (o := 0) C 5 rfl (by decide) (ceM_0 _ _ _) rfl rfl ca_X12_isUrn cv_X12_isUrn w_1268 rfl ⟨Nat.le_of_ble_eq_true rfl, Nat.le_of_ble_eq_true rfl⟩ ⟨Nat.le_of_ble_eq_true rfl, Nat.le_of_ble_eq_true rfl⟩ (Nat.le_of_ble_eq_true rfl) dX12_weakens_2 (fun v2 e9 => c_X12_isUrn _ _ v2 e9) h (fun v2 h => ?_) rfl
  refine xx_if_eq (tgt := 16) C 8 rfl dX12_weakens_5 (by decide) h (fun h => ?_) (fun h => ?_)
  · refine xx_bipush C 18 rfl dX12_weakens_16 (by decide) ?_
    exact xx_iret C E rfl ⟨Nat.le_of_ble_eq_true rfl, Nat.le_of_ble_eq_true rfl⟩ dX12_weakens_18 h
  · refine xx_aload_n C 9 rfl 0 dX12_weakens_8 rfl rfl ?_
    refine xx_iload_n C 10 rfl 2 dX12_weakens_9 rfl rfl ?_
    refine xx_cVip (As := [.int (iI a2)]) (st := []) (o := 0) C 13 rfl (by decide) (ceM_0 _ _ _) rfl rfl ca_X12_isUrn cv_X12_isUrn w_1268 rfl ⟨Nat.le_of_ble_eq_true rfl, Nat.le_of_ble_eq_true rfl⟩ ⟨Nat.le_of_ble_eq_true rfl, Nat.le_of_ble_eq_true rfl⟩ (Nat.le_of_ble_eq_true rfl) dX12_weakens_10 (fun v10 e9 => c_X12_isUrn _ _ v10 e9) h (fun v10 h => ?_) rfl
    refine xx_if_ne (tgt := 19) C 16 rfl dX12_weakens_13 (by decide) h (fun h => ?_) (fun h => ?_)
    · refine xx_aload_n C 20 rfl 0 dX12_weakens_19 rfl rfl ?_
      refine xx_iload_n C 21 rfl 1 dX12_weakens_20 rfl rfl ?_
      refine xx_cVip (As := [.int (iI a1)]) (st := []) (o := 0) C 24 rfl (by decide) (ceM_0 _ _ _) rfl rfl ca_X12_isDoomed cv_X12_isDoomed w_1275 rfl ⟨Nat.le_of_ble_eq_true rfl, Nat.le_of_ble_eq_true rfl⟩ ⟨Nat.le_of_ble_eq_true rfl, Nat.le_of_ble_eq_true rfl⟩ (Nat.le_of_ble_eq_true rfl) dX12_weakens_21 (fun v21 e9 => c_X12_isDoomed _ _ v21 e9) h (fun v21 h => ?_) rfl
      refine xx_if_eq (tgt := 35) C 27 rfl dX12_weakens_24 (by decide) h (fun h => ?_) (fun h => ?_)
      · refine xx_aload_n C 36 rfl 0 dX12_weakens_35 rfl rfl ?_
        refine xx_iload_n C 37 rfl 2 dX12_weakens_36 rfl rfl ?_
        refine xx_cVip (As := [.int (iI a2)]) (st := []) (o := 0) C 40 rfl (by decide) (ceM_0 _ _ _) rfl rfl ca_X12_isDoomed cv_X12_isDoomed w_1275 rfl ⟨Nat.le_of_ble_eq_true rfl, Nat.le_of_ble_eq_true rfl⟩ ⟨Nat.le_of_ble_eq_true rfl, Nat.le_of_ble_eq_true rfl⟩ (Nat.le_of_ble_eq_true rfl) dX12_weakens_37 (fun v37 e9 => c_X12_isDoomed _ _ v37 e9) h (fun v37 h => ?_) rfl
        refine xx_if_eq (tgt := 51) C 43 rfl dX12_weakens_40 (by decide) h (fun h => ?_) (fun h => ?_)
        · refine xx_aload_n C 52 rfl 0 dX12_weakens_51 rfl rfl ?_
          refine xx_getr (fi := 0) C 55 rfl (by decide) (ceM_0 _ _ _) rfl in_X12 (by decide) rfl rfl w_1171 dX12_weakens_52 ?_
          refine xx_bipush C 57 rfl dX12_weakens_55 (by decide) ?_
          refine xx_iload_n C 58 rfl 1 dX12_weakens_57 rfl rfl ?_
          refine xx_iadd C 59 rfl dX12_weakens_58 ?_
          refine xx_iaload C 60 rfl (by decide) (fun _ => rfl) (by decide) dX12_weakens_59 h (fun v59 h => ?_)
          refine xx_istore_n (lv1 := [(3, .int (iI v59)), (0, .ref (ad 0)), (1, .int (iI a1)), (2, .int (iI a2))]) C 61 rfl (by decide) dX12_weakens_60 rfl rfl ?_
          refine xx_aload_n C 62 rfl 1 dX12_weakens_61 rfl rfl ?_
          refine xx_getr (fi := 0) C 65 rfl (by decide) (ceM_0 _ _ _) rfl in_X12 (by decide) rfl rfl w_1171 dX12_weakens_62 ?_
          refine xx_bipush C 67 rfl dX12_weakens_65 (by decide) ?_
          refine xx_iload_n C 68 rfl 2 dX12_weakens_67 rfl rfl ?_
          refine xx_iadd C 69 rfl dX12_weakens_68 ?_
          refine xx_iload_n C 70 rfl 3 dX12_weakens_69 rfl rfl ?_
          refine xx_iastore C 71 rfl (by decide) (fun _ => rfl) (by decide) dX12_weakens_70 h (fun μ70 h => ?_)
          refine xx_aload_n C 72 rfl 1 dX12_weakens_71 rfl rfl ?_
          refine xx_iload_n C 73 rfl 0 dX12_weakens_72 rfl rfl ?_
          refine xx_cVi (As := [.int (iI v59)]) (st := []) (o := 0) C 76 rfl (by decide) (ceM_0 _ _ _) rfl rfl ca_X12_done cv_X12_done w_1248 rfl ⟨Nat.le_of_ble_eq_true rfl, Nat.le_of_ble_eq_true rfl⟩ ⟨Nat.le_of_ble_eq_true rfl, Nat.le_of_ble_eq_true rfl⟩ (Nat.le_of_ble_eq_true rfl) dX12_weakens_73 (fun v73 μ73 e9 => c_X12_done _ _ v73 μ73 e9) h (fun v73 μ73 h => ?_) rfl
          exact xx_iret C E rfl ⟨Nat.le_of_ble_eq_true rfl, Nat.le_of_ble_eq_true rfl⟩ dX12_weakens_76 h
        · refine xx_aload_n C 44 rfl 0 dX12_weakens_43 rfl rfl ?_
          refine xx_bipush C 46 rfl dX12_weakens_44 (by decide) ?_
          refine xx_iload_n C 47 rfl 2 dX12_weakens_46 rfl rfl ?_
          refine xx_cVi (As := [.int (iI 7), .int (iI a2)]) (st := []) (o := 0) C 50 rfl (by decide) (ceM_0 _ _ _) rfl rfl ca_X12_refused cv_X12_refused w_1244 rfl ⟨Nat.le_of_ble_eq_true rfl, Nat.le_of_ble_eq_true rfl⟩ ⟨Nat.le_of_ble_eq_true rfl, Nat.le_of_ble_eq_true rfl⟩ (Nat.le_of_ble_eq_true rfl) dX12_weakens_47 (fun v47 μ47 e9 => c_X12_refused _ _ _ v47 μ47 e9) h (fun v47 μ47 h => ?_) rfl
          exact xx_iret C E rfl ⟨Nat.le_of_ble_eq_true rfl, Nat.le_of_ble_eq_true rfl⟩ dX12_weakens_50 h
      · refine xx_aload_n C 28 rfl 0 dX12_weakens_27 rfl rfl ?_
        refine xx_bipush C 30 rfl dX12_weakens_28 (by decide) ?_
        refine xx_iload_n C 31 rfl 1 dX12_weakens_30 rfl rfl ?_
        refine xx_cVi (As := [.int (iI 7), .int (iI a1)]) (st := []) (o := 0) C 34 rfl (by decide) (ceM_0 _ _ _) rfl rfl ca_X12_refused cv_X12_refused w_1244 rfl ⟨Nat.le_of_ble_eq_true rfl, Nat.le_of_ble_eq_true rfl⟩ ⟨Nat.le_of_ble_eq_true rfl, Nat.le_of_ble_eq_true rfl⟩ (Nat.le_of_ble_eq_true rfl) dX12_weakens_31 (fun v31 μ31 e9 => c_X12_refused _ _ _ v31 μ31 e9) h (fun v31 μ31 h => ?_) rfl
        exact xx_iret C E rfl ⟨Nat.le_of_ble_eq_true rfl, Nat.le_of_ble_eq_true rfl⟩ dX12_weakens_34 h
    · refine xx_bipush C 18 rfl dX12_weakens_16 (by decide) ?_
      exact xx_iret C E rfl ⟨Nat.le_of_ble_eq_true rfl, Nat.le_of_ble_eq_true rfl⟩ dX12_weakens_18 h

def f_X12_names (μ : mu_T) (a1 : Int) (a2 : Int) : Option (Int × mu_T) :=
  bd_ (f_X12_in μ a1 0 5) (fun v3 => eq_ v3 0
      (some ((-11), μ))
      (bd_ (f_X12_isUrn μ a2) (fun v11 => eq_ v11 0
      (some ((-11), μ))
      (bd_ (f_X12_isDoomed μ a2) (fun v22 => eq_ v22 0
      (rd_ μ 1 293 (11 + a1) (fun v44 => wr_ μ 1 293 (11 + a1) a2 (fun μ55 => rd_ μ55 1 293 0 (fun v61 => eq_ v61 1
      (bd_ (f_X12_greysIfWhite μ55 a2) (fun μ68 => bp_ (f_X12_done μ68 v44) (fun v73 μ73 => some (v73, μ73))))
      (bp_ (f_X12_done μ55 v44) (fun v73 μ73 => some (v73, μ73)))))))
      (bp_ (f_X12_refused μ 7 a2) (fun v32 μ32 => some (v32, μ32))))))))
set_option maxHeartbeats 4000000 in
set_option maxRecDepth 100000 in
theorem c_X12_names {G : gp_} {ad : Nat → Nat} (μ : mu_T) (a1 : Int) (a2 : Int) (a : Int) (μr : mu_T) (h : f_X12_names μ a1 a2 = some (a, μr)) : mi_ yX12_names cX12_names 4 (some .int) ({ frames := 2, cells := 0, slots := 0, locals := 43 } : Room) G 9 ad (ceM G ad) [.ref (ad 0), .int (iI a1), .int (iI a2)] μ a μr := by
  refine mi_in (own := "UrnHeapModel") (lv := [(0, .ref (ad 0)), (1, .int (iI a1)), (2, .int (iI a2))]) (by decide) rfl rfl (Nat.le_of_ble_eq_true rfl) (fun X C E => ?_)
  unfold f_X12_names at h
  refine xx_iload_n C 1 rfl 1 dX12_names_0 rfl rfl ?_
  refine xx_iconst C 2 rfl dX12_names_1 ?_
  refine xx_iconst C 3 rfl dX12_names_2 ?_
  refine xx_cSip (As := [.int (iI a1), .int (iI 0), .int (iI 5)]) (st := []) C 6 rfl  ca_X12_in cs_X12_in w_1272 rfl ⟨Nat.le_of_ble_eq_true rfl, Nat.le_of_ble_eq_true rfl⟩ ⟨Nat.le_of_ble_eq_true rfl, Nat.le_of_ble_eq_true rfl⟩ (Nat.le_of_ble_eq_true rfl) dX12_names_3 (fun v3 e9 => c_X12_in _ _ _ _ v3 e9) h (fun v3 h => ?_) rfl
  refine xx_if_eq (tgt := 17) C 9 rfl dX12_names_6 (by decide) h (fun h => ?_) (fun h => ?_)
  · refine xx_bipush C 19 rfl dX12_names_17 (by decide) ?_
    exact xx_iret C E rfl ⟨Nat.le_of_ble_eq_true rfl, Nat.le_of_ble_eq_true rfl⟩ dX12_names_19 h
  · refine xx_aload_n C 10 rfl 0 dX12_names_9 rfl rfl ?_
    refine xx_iload_n C 11 rfl 2 dX12_names_10 rfl rfl ?_
    refine xx_cVip (As := [.int (iI a2)]) (st := []) (o := 0) C 14 rfl (by decide) (ceM_0 _ _ _) rfl rfl ca_X12_isUrn cv_X12_isUrn w_1268 rfl ⟨Nat.le_of_ble_eq_true rfl, Nat.le_of_ble_eq_true rfl⟩ ⟨Nat.le_of_ble_eq_true rfl, Nat.le_of_ble_eq_true rfl⟩ (Nat.le_of_ble_eq_true rfl) dX12_names_11 (fun v11 e9 => c_X12_isUrn _ _ v11 e9) h (fun v11 h => ?_) rfl
    refine xx_if_ne (tgt := 20) C 17 rfl dX12_names_14 (by decide) h (fun h => ?_) (fun h => ?_)
    · refine xx_aload_n C 21 rfl 0 dX12_names_20 rfl rfl ?_
      refine xx_iload_n C 22 rfl 2 dX12_names_21 rfl rfl ?_
      refine xx_cVip (As := [.int (iI a2)]) (st := []) (o := 0) C 25 rfl (by decide) (ceM_0 _ _ _) rfl rfl ca_X12_isDoomed cv_X12_isDoomed w_1275 rfl ⟨Nat.le_of_ble_eq_true rfl, Nat.le_of_ble_eq_true rfl⟩ ⟨Nat.le_of_ble_eq_true rfl, Nat.le_of_ble_eq_true rfl⟩ (Nat.le_of_ble_eq_true rfl) dX12_names_22 (fun v22 e9 => c_X12_isDoomed _ _ v22 e9) h (fun v22 h => ?_) rfl
      refine xx_if_eq (tgt := 36) C 28 rfl dX12_names_25 (by decide) h (fun h => ?_) (fun h => ?_)
      · refine xx_aload_n C 37 rfl 0 dX12_names_36 rfl rfl ?_
        refine xx_getr (fi := 0) C 40 rfl (by decide) (ceM_0 _ _ _) rfl in_X12 (by decide) rfl rfl w_1171 dX12_names_37 ?_
        refine xx_bipush C 42 rfl dX12_names_40 (by decide) ?_
        refine xx_iload_n C 43 rfl 1 dX12_names_42 rfl rfl ?_
        refine xx_iadd C 44 rfl dX12_names_43 ?_
        refine xx_iaload C 45 rfl (by decide) (fun _ => rfl) (by decide) dX12_names_44 h (fun v44 h => ?_)
        refine xx_istore_n (lv1 := [(3, .int (iI v44)), (0, .ref (ad 0)), (1, .int (iI a1)), (2, .int (iI a2))]) C 46 rfl (by decide) dX12_names_45 rfl rfl ?_
        refine xx_aload_n C 47 rfl 1 dX12_names_46 rfl rfl ?_
        refine xx_getr (fi := 0) C 50 rfl (by decide) (ceM_0 _ _ _) rfl in_X12 (by decide) rfl rfl w_1171 dX12_names_47 ?_
        refine xx_bipush C 52 rfl dX12_names_50 (by decide) ?_
        refine xx_iload_n C 53 rfl 2 dX12_names_52 rfl rfl ?_
        refine xx_iadd C 54 rfl dX12_names_53 ?_
        refine xx_iload_n C 55 rfl 3 dX12_names_54 rfl rfl ?_
        refine xx_iastore C 56 rfl (by decide) (fun _ => rfl) (by decide) dX12_names_55 h (fun μ55 h => ?_)
        refine xx_aload_n C 57 rfl 1 dX12_names_56 rfl rfl ?_
        refine xx_getr (fi := 0) C 60 rfl (by decide) (ceM_0 _ _ _) rfl in_X12 (by decide) rfl rfl w_1171 dX12_names_57 ?_
        refine xx_iconst C 61 rfl dX12_names_60 ?_
        refine xx_iaload C 62 rfl (by decide) (fun _ => rfl) (by decide) dX12_names_61 h (fun v61 h => ?_)
        refine xx_iconst C 63 rfl dX12_names_62 ?_
        refine xx_icmp_ne (tgt := 71) C 66 rfl dX12_names_63 (by decide) h (fun h => ?_) (fun h => ?_)
        · refine xx_aload_n C 72 rfl 1 dX12_names_71 rfl rfl ?_
          refine xx_iload_n C 73 rfl 0 dX12_names_72 rfl rfl ?_
          refine xx_cVi (As := [.int (iI v44)]) (st := []) (o := 0) C 76 rfl (by decide) (ceM_0 _ _ _) rfl rfl ca_X12_done cv_X12_done w_1248 rfl ⟨Nat.le_of_ble_eq_true rfl, Nat.le_of_ble_eq_true rfl⟩ ⟨Nat.le_of_ble_eq_true rfl, Nat.le_of_ble_eq_true rfl⟩ (Nat.le_of_ble_eq_true rfl) dX12_names_73 (fun v73 μ73 e9 => c_X12_done _ _ v73 μ73 e9) h (fun v73 μ73 h => ?_) rfl
          exact xx_iret C E rfl ⟨Nat.le_of_ble_eq_true rfl, Nat.le_of_ble_eq_true rfl⟩ dX12_names_76 h
        · refine xx_aload_n C 67 rfl 1 dX12_names_66 rfl rfl ?_
          refine xx_iload_n C 68 rfl 3 dX12_names_67 rfl rfl ?_
          refine xx_cVv (As := [.int (iI a2)]) (st := []) (o := 0) C 71 rfl (by decide) (ceM_0 _ _ _) rfl rfl ca_X12_greysIfWhite cv_X12_greysIfWhite w_1279 rfl ⟨Nat.le_of_ble_eq_true rfl, Nat.le_of_ble_eq_true rfl⟩ ⟨Nat.le_of_ble_eq_true rfl, Nat.le_of_ble_eq_true rfl⟩ (Nat.le_of_ble_eq_true rfl) dX12_names_68 (fun μ68 e9 => c_X12_greysIfWhite _ _ μ68 e9) h (fun μ68 h => ?_) rfl
          refine xx_aload_n C 72 rfl 1 dX12_names_71 rfl rfl ?_
          refine xx_iload_n C 73 rfl 0 dX12_names_72 rfl rfl ?_
          refine xx_cVi (As := [.int (iI v44)]) (st := []) (o := 0) C 76 rfl (by decide) (ceM_0 _ _ _) rfl rfl ca_X12_done cv_X12_done w_1248 rfl ⟨Nat.le_of_ble_eq_true rfl, Nat.le_of_ble_eq_true rfl⟩ ⟨Nat.le_of_ble_eq_true rfl, Nat.le_of_ble_eq_true rfl⟩ (Nat.le_of_ble_eq_true rfl) dX12_names_73 (fun v73 μ73 e9 => c_X12_done _ _ v73 μ73 e9) h (fun v73 μ73 h => ?_) rfl
          exact xx_iret C E rfl ⟨Nat.le_of_ble_eq_true rfl, Nat.le_of_ble_eq_true rfl⟩ dX12_names_76 h
      · refine xx_aload_n C 29 rfl 0 dX12_names_28 rfl rfl ?_
        refine xx_bipush C 31 rfl dX12_names_29 (by decide) ?_
        refine xx_iload_n C 32 rfl 2 dX12_names_31 rfl rfl ?_
        refine xx_cVi (As := [.int (iI 7), .int (iI a2)]) (st := []) (o := 0) C 35 rfl (by decide) (ceM_0 _ _ _) rfl rfl ca_X12_refused cv_X12_refused w_1244 rfl ⟨Nat.le_of_ble_eq_true rfl, Nat.le_of_ble_eq_true rfl⟩ ⟨Nat.le_of_ble_eq_true rfl, Nat.le_of_ble_eq_true rfl⟩ (Nat.le_of_ble_eq_true rfl) dX12_names_32 (fun v32 μ32 e9 => c_X12_refused _ _ _ v32 μ32 e9) h (fun v32 μ32 h => ?_) rfl
        exact xx_iret C E rfl ⟨Nat.le_of_ble_eq_true rfl, Nat.le_of_ble_eq_true rfl⟩ dX12_names_35 h
    · refine xx_bipush C 19 rfl dX12_names_17 (by decide) ?_
      exact xx_iret C E rfl ⟨Nat.le_of_ble_eq_true rfl, Nat.le_of_ble_eq_true rfl⟩ dX12_names_19 h

def f_X12_drops (μ : mu_T) (a1 : Int) : Option (Int × mu_T) :=
  bd_ (f_X12_in μ a1 0 5) (fun v3 => eq_ v3 0
      (some ((-11), μ))
      (rd_ μ 1 293 (11 + a1) (fun v20 => eq_ v20 (-15)
      (bp_ (f_X12_refused μ 3 a1) (fun v31 μ31 => some (v31, μ31)))
      (wr_ μ 1 293 (11 + a1) (-15) (fun μ45 => bp_ (f_X12_done μ45 v20) (fun v48 μ48 => some (v48, μ48)))))))
set_option maxHeartbeats 4000000 in
set_option maxRecDepth 100000 in
theorem c_X12_drops {G : gp_} {ad : Nat → Nat} (μ : mu_T) (a1 : Int) (a : Int) (μr : mu_T) (h : f_X12_drops μ a1 = some (a, μr)) : mi_ yX12_drops cX12_drops 3 (some .int) ({ frames := 1, cells := 0, slots := 0, locals := 22 } : Room) G 9 ad (ceM G ad) [.ref (ad 0), .int (iI a1)] μ a μr := by
  refine mi_in (own := "UrnHeapModel") (lv := [(0, .ref (ad 0)), (1, .int (iI a1))]) (by decide) rfl rfl (Nat.le_of_ble_eq_true rfl) (fun X C E => ?_)
  unfold f_X12_drops at h
  refine xx_iload_n C 1 rfl 1 dX12_drops_0 rfl rfl ?_
  refine xx_iconst C 2 rfl dX12_drops_1 ?_
  refine xx_iconst C 3 rfl dX12_drops_2 ?_
  refine xx_cSip (As := [.int (iI a1), .int (iI 0), .int (iI 5)]) (st := []) C 6 rfl  ca_X12_in cs_X12_in w_1272 rfl ⟨Nat.le_of_ble_eq_true rfl, Nat.le_of_ble_eq_true rfl⟩ ⟨Nat.le_of_ble_eq_true rfl, Nat.le_of_ble_eq_true rfl⟩ (Nat.le_of_ble_eq_true rfl) dX12_drops_3 (fun v3 e9 => c_X12_in _ _ _ _ v3 e9) h (fun v3 h => ?_) rfl
  refine xx_if_ne (tgt := 12) C 9 rfl dX12_drops_6 (by decide) h (fun h => ?_) (fun h => ?_)
  · refine xx_aload_n C 13 rfl 0 dX12_drops_12 rfl rfl ?_
    refine xx_getr (fi := 0) C 16 rfl (by decide) (ceM_0 _ _ _) rfl in_X12 (by decide) rfl rfl w_1171 dX12_drops_13 ?_
    refine xx_bipush C 18 rfl dX12_drops_16 (by decide) ?_
    refine xx_iload_n C 19 rfl 1 dX12_drops_18 rfl rfl ?_
    refine xx_iadd C 20 rfl dX12_drops_19 ?_
    refine xx_iaload C 21 rfl (by decide) (fun _ => rfl) (by decide) dX12_drops_20 h (fun v20 h => ?_)
    refine xx_istore_n (lv1 := [(2, .int (iI v20)), (0, .ref (ad 0)), (1, .int (iI a1))]) C 22 rfl (by decide) dX12_drops_21 rfl rfl ?_
    refine xx_iload_n C 23 rfl 0 dX12_drops_22 rfl rfl ?_
    refine xx_bipush C 25 rfl dX12_drops_23 (by decide) ?_
    refine xx_icmp_ne (tgt := 35) C 28 rfl dX12_drops_25 (by decide) h (fun h => ?_) (fun h => ?_)
    · refine xx_aload_n C 36 rfl 1 dX12_drops_35 rfl rfl ?_
      refine xx_getr (fi := 0) C 39 rfl (by decide) (ceM_0 _ _ _) rfl in_X12 (by decide) rfl rfl w_1171 dX12_drops_36 ?_
      refine xx_bipush C 41 rfl dX12_drops_39 (by decide) ?_
      refine xx_iload_n C 42 rfl 2 dX12_drops_41 rfl rfl ?_
      refine xx_iadd C 43 rfl dX12_drops_42 ?_
      refine xx_bipush C 45 rfl dX12_drops_43 (by decide) ?_
      refine xx_iastore C 46 rfl (by decide) (fun _ => rfl) (by decide) dX12_drops_45 h (fun μ45 h => ?_)
      refine xx_aload_n C 47 rfl 1 dX12_drops_46 rfl rfl ?_
      refine xx_iload_n C 48 rfl 0 dX12_drops_47 rfl rfl ?_
      refine xx_cVi (As := [.int (iI v20)]) (st := []) (o := 0) C 51 rfl (by decide) (ceM_0 _ _ _) rfl rfl ca_X12_done cv_X12_done w_1248 rfl ⟨Nat.le_of_ble_eq_true rfl, Nat.le_of_ble_eq_true rfl⟩ ⟨Nat.le_of_ble_eq_true rfl, Nat.le_of_ble_eq_true rfl⟩ (Nat.le_of_ble_eq_true rfl) dX12_drops_48 (fun v48 μ48 e9 => c_X12_done _ _ v48 μ48 e9) h (fun v48 μ48 h => ?_) rfl
      exact xx_iret C E rfl ⟨Nat.le_of_ble_eq_true rfl, Nat.le_of_ble_eq_true rfl⟩ dX12_drops_51 h
    · refine xx_aload_n C 29 rfl 1 dX12_drops_28 rfl rfl ?_
      refine xx_iconst C 30 rfl dX12_drops_29 ?_
      refine xx_iload_n C 31 rfl 2 dX12_drops_30 rfl rfl ?_
      refine xx_cVi (As := [.int (iI 3), .int (iI a1)]) (st := []) (o := 0) C 34 rfl (by decide) (ceM_0 _ _ _) rfl rfl ca_X12_refused cv_X12_refused w_1244 rfl ⟨Nat.le_of_ble_eq_true rfl, Nat.le_of_ble_eq_true rfl⟩ ⟨Nat.le_of_ble_eq_true rfl, Nat.le_of_ble_eq_true rfl⟩ (Nat.le_of_ble_eq_true rfl) dX12_drops_31 (fun v31 μ31 e9 => c_X12_refused _ _ _ v31 μ31 e9) h (fun v31 μ31 h => ?_) rfl
      exact xx_iret C E rfl ⟨Nat.le_of_ble_eq_true rfl, Nat.le_of_ble_eq_true rfl⟩ dX12_drops_34 h
  · refine xx_bipush C 11 rfl dX12_drops_9 (by decide) ?_
    exact xx_iret C E rfl ⟨Nat.le_of_ble_eq_true rfl, Nat.le_of_ble_eq_true rfl⟩ dX12_drops_11 h

def f_X12_stepsOn (μ : mu_T) (a1 : Int) : Option (Int × mu_T) :=
  bd_ (f_X12_in μ a1 1 99) (fun v4 => eq_ v4 0
      (some ((-12), μ))
      (rd_ μ 1 293 0 (fun v18 => eq_ v18 0
      (rd_ μ 1 293 2 (fun v29 => bp_ (f_X12_refused μ 5 v29) (fun v30 μ30 => some (v30, μ30))))
      (bp_ (f_X12_partsOn μ a1) (fun v39 μ39 => bp_ (f_X12_done μ39 v39) (fun v42 μ42 => some (v42, μ42)))))))
set_option maxHeartbeats 4000000 in
set_option maxRecDepth 100000 in
theorem c_X12_stepsOn {G : gp_} {ad : Nat → Nat} (μ : mu_T) (a1 : Int) (a : Int) (μr : mu_T) (h : f_X12_stepsOn μ a1 = some (a, μr)) : mi_ yX12_stepsOn cX12_stepsOn 2 (some .int) ({ frames := 6, cells := 0, slots := 0, locals := 129 } : Room) G 9 ad (ceM G ad) [.ref (ad 0), .int (iI a1)] μ a μr := by
  refine mi_in (own := "UrnHeapModel") (lv := [(0, .ref (ad 0)), (1, .int (iI a1))]) (by decide) rfl rfl (Nat.le_of_ble_eq_true rfl) (fun X C E => ?_)
  unfold f_X12_stepsOn at h
  refine xx_iload_n C 1 rfl 1 dX12_stepsOn_0 rfl rfl ?_
  refine xx_iconst C 2 rfl dX12_stepsOn_1 ?_
  refine xx_bipush C 4 rfl dX12_stepsOn_2 (by decide) ?_
  refine xx_cSip (As := [.int (iI a1), .int (iI 1), .int (iI 99)]) (st := []) C 7 rfl  ca_X12_in cs_X12_in w_1272 rfl ⟨Nat.le_of_ble_eq_true rfl, Nat.le_of_ble_eq_true rfl⟩ ⟨Nat.le_of_ble_eq_true rfl, Nat.le_of_ble_eq_true rfl⟩ (Nat.le_of_ble_eq_true rfl) dX12_stepsOn_4 (fun v4 e9 => c_X12_in _ _ _ _ v4 e9) h (fun v4 h => ?_) rfl
  refine xx_if_ne (tgt := 13) C 10 rfl dX12_stepsOn_7 (by decide) h (fun h => ?_) (fun h => ?_)
  · refine xx_aload_n C 14 rfl 0 dX12_stepsOn_13 rfl rfl ?_
    refine xx_getr (fi := 0) C 17 rfl (by decide) (ceM_0 _ _ _) rfl in_X12 (by decide) rfl rfl w_1171 dX12_stepsOn_14 ?_
    refine xx_iconst C 18 rfl dX12_stepsOn_17 ?_
    refine xx_iaload C 19 rfl (by decide) (fun _ => rfl) (by decide) dX12_stepsOn_18 h (fun v18 h => ?_)
    refine xx_if_ne (tgt := 36) C 22 rfl dX12_stepsOn_19 (by decide) h (fun h => ?_) (fun h => ?_)
    · refine xx_aload_n C 37 rfl 0 dX12_stepsOn_36 rfl rfl ?_
      refine xx_aload_n C 38 rfl 0 dX12_stepsOn_37 rfl rfl ?_
      refine xx_iload_n C 39 rfl 1 dX12_stepsOn_38 rfl rfl ?_
      refine xx_cVi (As := [.int (iI a1)]) (st := [.ref (ad 0)]) (o := 0) C 42 rfl (by decide) (ceM_0 _ _ _) rfl rfl ca_X12_partsOn cv_X12_partsOn w_1359 rfl ⟨Nat.le_of_ble_eq_true rfl, Nat.le_of_ble_eq_true rfl⟩ ⟨Nat.le_of_ble_eq_true rfl, Nat.le_of_ble_eq_true rfl⟩ (Nat.le_of_ble_eq_true rfl) dX12_stepsOn_39 (fun v39 μ39 e9 => c_X12_partsOn _ _ v39 μ39 e9) h (fun v39 μ39 h => ?_) rfl
      refine xx_cVi (As := [.int (iI v39)]) (st := []) (o := 0) C 45 rfl (by decide) (ceM_0 _ _ _) rfl rfl ca_X12_done cv_X12_done w_1248 rfl ⟨Nat.le_of_ble_eq_true rfl, Nat.le_of_ble_eq_true rfl⟩ ⟨Nat.le_of_ble_eq_true rfl, Nat.le_of_ble_eq_true rfl⟩ (Nat.le_of_ble_eq_true rfl) dX12_stepsOn_42 (fun v42 μ42 e9 => c_X12_done _ _ v42 μ42 e9) h (fun v42 μ42 h => ?_) rfl
      exact xx_iret C E rfl ⟨Nat.le_of_ble_eq_true rfl, Nat.le_of_ble_eq_true rfl⟩ dX12_stepsOn_45 h
    · refine xx_aload_n C 23 rfl 0 dX12_stepsOn_22 rfl rfl ?_
      refine xx_iconst C 24 rfl dX12_stepsOn_23 ?_
      refine xx_aload_n C 25 rfl 0 dX12_stepsOn_24 rfl rfl ?_
      refine xx_getr (fi := 0) C 28 rfl (by decide) (ceM_0 _ _ _) rfl in_X12 (by decide) rfl rfl w_1171 dX12_stepsOn_25 ?_
      refine xx_iconst C 29 rfl dX12_stepsOn_28 ?_
      refine xx_iaload C 30 rfl (by decide) (fun _ => rfl) (by decide) dX12_stepsOn_29 h (fun v29 h => ?_)
      refine xx_cVi (As := [.int (iI 5), .int (iI v29)]) (st := []) (o := 0) C 33 rfl (by decide) (ceM_0 _ _ _) rfl rfl ca_X12_refused cv_X12_refused w_1244 rfl ⟨Nat.le_of_ble_eq_true rfl, Nat.le_of_ble_eq_true rfl⟩ ⟨Nat.le_of_ble_eq_true rfl, Nat.le_of_ble_eq_true rfl⟩ (Nat.le_of_ble_eq_true rfl) dX12_stepsOn_30 (fun v30 μ30 e9 => c_X12_refused _ _ _ v30 μ30 e9) h (fun v30 μ30 h => ?_) rfl
      refine xx_goto C 45 dX12_stepsOn_33 (by decide) ?_
      exact xx_iret C E rfl ⟨Nat.le_of_ble_eq_true rfl, Nat.le_of_ble_eq_true rfl⟩ dX12_stepsOn_45 h
  · refine xx_bipush C 12 rfl dX12_stepsOn_10 (by decide) ?_
    exact xx_iret C E rfl ⟨Nat.le_of_ble_eq_true rfl, Nat.le_of_ble_eq_true rfl⟩ dX12_stepsOn_12 h

def f_X12_wholeRound (μ : mu_T)  : Option (Int × mu_T) :=
  rd_ μ 1 293 4 (fun v5 => rd_ μ 1 293 0 (fun v12 => jn_ (φ := Int → mu_T → Option (Int × mu_T)) (fun s0_24 μ24 => bp_ (f_X12_partsOn μ24 10000) (fun v29 μ29 => rd_ μ29 1 293 4 (fun v39 => bp_ (f_X12_done μ29 (v39 - v5)) (fun v42 μ42 => some (v42, μ42)))))
      (fun J24 => eq_ v12 0
      (bp_ (f_X12_beginsRound μ) (fun v17 μ17 => J24 v17 μ17))
      (J24 0 μ))))
set_option maxHeartbeats 4000000 in
set_option maxRecDepth 100000 in
theorem c_X12_wholeRound {G : gp_} {ad : Nat → Nat} (μ : mu_T)  (a : Int) (μr : mu_T) (h : f_X12_wholeRound μ  = some (a, μr)) : mi_ yX12_wholeRound cX12_wholeRound 4 (some .int) ({ frames := 6, cells := 0, slots := 0, locals := 129 } : Room) G 9 ad (ceM G ad) [.ref (ad 0)] μ a μr := by
  refine mi_in (own := "UrnHeapModel") (lv := [(0, .ref (ad 0))]) (by decide) rfl rfl (Nat.le_of_ble_eq_true rfl) (fun X C E => ?_)
  unfold f_X12_wholeRound at h
  refine xx_aload_n C 1 rfl 0 dX12_wholeRound_0 rfl rfl ?_
  refine xx_getr (fi := 0) C 4 rfl (by decide) (ceM_0 _ _ _) rfl in_X12 (by decide) rfl rfl w_1171 dX12_wholeRound_1 ?_
  refine xx_iconst C 5 rfl dX12_wholeRound_4 ?_
  refine xx_iaload C 6 rfl (by decide) (fun _ => rfl) (by decide) dX12_wholeRound_5 h (fun v5 h => ?_)
  refine xx_istore_n (lv1 := [(1, .int (iI v5)), (0, .ref (ad 0))]) C 7 rfl (by decide) dX12_wholeRound_6 rfl rfl ?_
  refine xx_aload_n C 8 rfl 1 dX12_wholeRound_7 rfl rfl ?_
  refine xx_getr (fi := 0) C 11 rfl (by decide) (ceM_0 _ _ _) rfl in_X12 (by decide) rfl rfl w_1171 dX12_wholeRound_8 ?_
  refine xx_iconst C 12 rfl dX12_wholeRound_11 ?_
  refine xx_iaload C 13 rfl (by decide) (fun _ => rfl) (by decide) dX12_wholeRound_12 h (fun v12 h => ?_)
  refine jn_r (fun J => ∀ (s0_24 : Int) (μ24 : mu_T), J s0_24 μ24 = some (a, μr) → wx_ G X 9 ad (ceM G ad) μ24 0 0 24 [(0, .ref (ad 0)), (1, .int (iI v5))] [.int (iI s0_24)]) h (fun s0_24 μ24 h => ?_) (fun J24 K24 h => ?_)
  · refine xx_istore_n (lv1 := [(2, .int (iI s0_24)), (0, .ref (ad 0)), (1, .int (iI v5))]) C 25 rfl (by decide) dX12_wholeRound_24 rfl rfl ?_
    refine xx_aload_n C 26 rfl 1 dX12_wholeRound_25 rfl rfl ?_
    refine xx_sipush C 29 rfl dX12_wholeRound_26 (by decide) ?_
    refine xx_cVi (As := [.int (iI 10000)]) (st := []) (o := 0) C 32 rfl (by decide) (ceM_0 _ _ _) rfl rfl ca_X12_partsOn cv_X12_partsOn w_1359 rfl ⟨Nat.le_of_ble_eq_true rfl, Nat.le_of_ble_eq_true rfl⟩ ⟨Nat.le_of_ble_eq_true rfl, Nat.le_of_ble_eq_true rfl⟩ (Nat.le_of_ble_eq_true rfl) dX12_wholeRound_29 (fun v29 μ29 e9 => c_X12_partsOn _ _ v29 μ29 e9) h (fun v29 μ29 h => ?_) rfl
    refine xx_istore_n (lv1 := [(3, .int (iI v29)), (2, .int (iI s0_24)), (0, .ref (ad 0)), (1, .int (iI v5))]) C 33 rfl (by decide) dX12_wholeRound_32 rfl rfl ?_
    refine xx_aload_n C 34 rfl 2 dX12_wholeRound_33 rfl rfl ?_
    refine xx_aload_n C 35 rfl 2 dX12_wholeRound_34 rfl rfl ?_
    refine xx_getr (fi := 0) C 38 rfl (by decide) (ceM_0 _ _ _) rfl in_X12 (by decide) rfl rfl w_1171 dX12_wholeRound_35 ?_
    refine xx_iconst C 39 rfl dX12_wholeRound_38 ?_
    refine xx_iaload C 40 rfl (by decide) (fun _ => rfl) (by decide) dX12_wholeRound_39 h (fun v39 h => ?_)
    refine xx_iload_n C 41 rfl 3 dX12_wholeRound_40 rfl rfl ?_
    refine xx_isub C 42 rfl dX12_wholeRound_41 ?_
    refine xx_cVi (As := [.int (iI (v39 - v5))]) (st := []) (o := 0) C 45 rfl (by decide) (ceM_0 _ _ _) rfl rfl ca_X12_done cv_X12_done w_1248 rfl ⟨Nat.le_of_ble_eq_true rfl, Nat.le_of_ble_eq_true rfl⟩ ⟨Nat.le_of_ble_eq_true rfl, Nat.le_of_ble_eq_true rfl⟩ (Nat.le_of_ble_eq_true rfl) dX12_wholeRound_42 (fun v42 μ42 e9 => c_X12_done _ _ v42 μ42 e9) h (fun v42 μ42 h => ?_) rfl
    exact xx_iret C E rfl ⟨Nat.le_of_ble_eq_true rfl, Nat.le_of_ble_eq_true rfl⟩ dX12_wholeRound_45 h
  · refine xx_if_ne (tgt := 23) C 16 rfl dX12_wholeRound_13 (by decide) h (fun h => ?_) (fun h => ?_)
    · refine xx_iconst C 24 rfl dX12_wholeRound_23 ?_
      refine xx_sub [1, 0] rfl ?_
      exact K24 0 μ h
    · refine xx_aload_n C 17 rfl 1 dX12_wholeRound_16 rfl rfl ?_
      refine xx_cVi (As := []) (st := []) (o := 0) C 20 rfl (by decide) (ceM_0 _ _ _) rfl rfl ca_X12_beginsRound cv_X12_beginsRound w_1347 rfl ⟨Nat.le_of_ble_eq_true rfl, Nat.le_of_ble_eq_true rfl⟩ ⟨Nat.le_of_ble_eq_true rfl, Nat.le_of_ble_eq_true rfl⟩ (Nat.le_of_ble_eq_true rfl) dX12_wholeRound_17 (fun v17 μ17 e9 => c_X12_beginsRound _ v17 μ17 e9) h (fun v17 μ17 h => ?_) rfl
      refine xx_goto C 24 dX12_wholeRound_20 (by decide) ?_
      refine xx_sub [1, 0] rfl ?_
      exact K24 v17 μ17 h

def f_X12_doesRite_L45 (J84 : mu_T → Option (Int × mu_T)) : Nat → Int → mu_T → Option (Int × mu_T)
  | 0, _, _ => none
  | fu45 + 1, x2_45, μ45 => rd_ μ45 1 293 9 (fun v52 => lt_ x2_45 v52
      (rd_ μ45 1 293 ((257 + x2_45) + 1) (fun v76 => wr_ μ45 1 293 (257 + x2_45) v76 (fun μ77 => nm_ (x2_45 + 1) (fun n78 => (f_X12_doesRite_L45 J84 fu45) n78 μ77))))
      (J84 μ45))
def f_X12_doesRite (μ : mu_T)  : Option (Int × mu_T) :=
  rd_ μ 1 293 9 (fun v6 => eq_ v6 0
      (rd_ μ 1 293 5 (fun v18 => bp_ (f_X12_refused μ 6 v18) (fun v19 μ19 => some (v19, μ19))))
      (rd_ μ 1 293 257 (fun v30 => rd_ μ 1 293 9 (fun v39 => wr_ μ 1 293 9 (v39 - 1) (fun μ42 => jn_ (φ := mu_T → Option (Int × mu_T)) (fun μ84 => rd_ μ84 1 293 9 (fun v97 => wr_ μ84 1 293 (257 + v97) 0 (fun μ100 => wr_ μ100 1 293 (65 + v30) 0 (fun μ110 => rd_ μ110 1 293 5 (fun v117 => wr_ μ110 1 293 5 (v117 + 1) (fun μ120 => bp_ (f_X12_done μ120 v30) (fun v123 μ123 => some (v123, μ123))))))))
      (fun J84 => f_X12_doesRite_L45 J84 20000 0 μ42))))))
set_option maxHeartbeats 4000000 in
set_option maxRecDepth 100000 in
theorem c_X12_doesRite {G : gp_} {ad : Nat → Nat} (μ : mu_T)  (a : Int) (μr : mu_T) (h : f_X12_doesRite μ  = some (a, μr)) : mi_ yX12_doesRite cX12_doesRite 3 (some .int) ({ frames := 1, cells := 0, slots := 0, locals := 22 } : Room) G 9 ad (ceM G ad) [.ref (ad 0)] μ a μr := by
  refine mi_in (own := "UrnHeapModel") (lv := [(0, .ref (ad 0))]) (by decide) rfl rfl (Nat.le_of_ble_eq_true rfl) (fun X C E => ?_)
  unfold f_X12_doesRite at h
  refine xx_aload_n C 1 rfl 0 dX12_doesRite_0 rfl rfl ?_
  refine xx_getr (fi := 0) C 4 rfl (by decide) (ceM_0 _ _ _) rfl in_X12 (by decide) rfl rfl w_1171 dX12_doesRite_1 ?_
  refine xx_bipush C 6 rfl dX12_doesRite_4 (by decide) ?_
  refine xx_iaload C 7 rfl (by decide) (fun _ => rfl) (by decide) dX12_doesRite_6 h (fun v6 h => ?_)
  refine xx_if_ne (tgt := 23) C 10 rfl dX12_doesRite_7 (by decide) h (fun h => ?_) (fun h => ?_)
  · refine xx_aload_n C 24 rfl 0 dX12_doesRite_23 rfl rfl ?_
    refine xx_getr (fi := 0) C 27 rfl (by decide) (ceM_0 _ _ _) rfl in_X12 (by decide) rfl rfl w_1171 dX12_doesRite_24 ?_
    refine xx_sipush C 30 rfl dX12_doesRite_27 (by decide) ?_
    refine xx_iaload C 31 rfl (by decide) (fun _ => rfl) (by decide) dX12_doesRite_30 h (fun v30 h => ?_)
    refine xx_istore_n (lv1 := [(1, .int (iI v30)), (0, .ref (ad 0))]) C 32 rfl (by decide) dX12_doesRite_31 rfl rfl ?_
    refine xx_aload_n C 33 rfl 1 dX12_doesRite_32 rfl rfl ?_
    refine xx_getr (fi := 0) C 36 rfl (by decide) (ceM_0 _ _ _) rfl in_X12 (by decide) rfl rfl w_1171 dX12_doesRite_33 ?_
    refine xx_bipush C 38 rfl dX12_doesRite_36 (by decide) ?_
    refine xx_dup2 C 39 rfl dX12_doesRite_38 rfl rfl ?_
    refine xx_iaload C 40 rfl (by decide) (fun _ => rfl) (by decide) dX12_doesRite_39 h (fun v39 h => ?_)
    refine xx_iconst C 41 rfl dX12_doesRite_40 ?_
    refine xx_isub C 42 rfl dX12_doesRite_41 ?_
    refine xx_iastore C 43 rfl (by decide) (fun _ => rfl) (by decide) dX12_doesRite_42 h (fun μ42 h => ?_)
    refine xx_iconst C 44 rfl dX12_doesRite_43 ?_
    refine xx_istore_n (lv1 := [(2, .int (iI 0)), (1, .int (iI v30)), (0, .ref (ad 0))]) C 45 rfl (by decide) dX12_doesRite_44 rfl rfl ?_
    refine jn_r (fun J => ∀ (μ84 : mu_T), J μ84 = some (a, μr) → wx_ G X 9 ad (ceM G ad) μ84 0 0 84 [(0, .ref (ad 0)), (1, .int (iI v30))] []) h (fun μ84 h => ?_) (fun J84 K84 h => ?_)
    · refine xx_aload_n C 85 rfl 0 dX12_doesRite_84 rfl rfl ?_
      refine xx_getr (fi := 0) C 88 rfl (by decide) (ceM_0 _ _ _) rfl in_X12 (by decide) rfl rfl w_1171 dX12_doesRite_85 ?_
      refine xx_sipush C 91 rfl dX12_doesRite_88 (by decide) ?_
      refine xx_aload_n C 92 rfl 0 dX12_doesRite_91 rfl rfl ?_
      refine xx_getr (fi := 0) C 95 rfl (by decide) (ceM_0 _ _ _) rfl in_X12 (by decide) rfl rfl w_1171 dX12_doesRite_92 ?_
      refine xx_bipush C 97 rfl dX12_doesRite_95 (by decide) ?_
      refine xx_iaload C 98 rfl (by decide) (fun _ => rfl) (by decide) dX12_doesRite_97 h (fun v97 h => ?_)
      refine xx_iadd C 99 rfl dX12_doesRite_98 ?_
      refine xx_iconst C 100 rfl dX12_doesRite_99 ?_
      refine xx_iastore C 101 rfl (by decide) (fun _ => rfl) (by decide) dX12_doesRite_100 h (fun μ100 h => ?_)
      refine xx_aload_n C 102 rfl 0 dX12_doesRite_101 rfl rfl ?_
      refine xx_getr (fi := 0) C 105 rfl (by decide) (ceM_0 _ _ _) rfl in_X12 (by decide) rfl rfl w_1171 dX12_doesRite_102 ?_
      refine xx_bipush C 107 rfl dX12_doesRite_105 (by decide) ?_
      refine xx_iload_n C 108 rfl 1 dX12_doesRite_107 rfl rfl ?_
      refine xx_iadd C 109 rfl dX12_doesRite_108 ?_
      refine xx_iconst C 110 rfl dX12_doesRite_109 ?_
      refine xx_iastore C 111 rfl (by decide) (fun _ => rfl) (by decide) dX12_doesRite_110 h (fun μ110 h => ?_)
      refine xx_aload_n C 112 rfl 0 dX12_doesRite_111 rfl rfl ?_
      refine xx_getr (fi := 0) C 115 rfl (by decide) (ceM_0 _ _ _) rfl in_X12 (by decide) rfl rfl w_1171 dX12_doesRite_112 ?_
      refine xx_iconst C 116 rfl dX12_doesRite_115 ?_
      refine xx_dup2 C 117 rfl dX12_doesRite_116 rfl rfl ?_
      refine xx_iaload C 118 rfl (by decide) (fun _ => rfl) (by decide) dX12_doesRite_117 h (fun v117 h => ?_)
      refine xx_iconst C 119 rfl dX12_doesRite_118 ?_
      refine xx_iadd C 120 rfl dX12_doesRite_119 ?_
      refine xx_iastore C 121 rfl (by decide) (fun _ => rfl) (by decide) dX12_doesRite_120 h (fun μ120 h => ?_)
      refine xx_aload_n C 122 rfl 0 dX12_doesRite_121 rfl rfl ?_
      refine xx_iload_n C 123 rfl 1 dX12_doesRite_122 rfl rfl ?_
      refine xx_cVi (As := [.int (iI v30)]) (st := []) (o := 0) C 126 rfl (by decide) (ceM_0 _ _ _) rfl rfl ca_X12_done cv_X12_done w_1248 rfl ⟨Nat.le_of_ble_eq_true rfl, Nat.le_of_ble_eq_true rfl⟩ ⟨Nat.le_of_ble_eq_true rfl, Nat.le_of_ble_eq_true rfl⟩ (Nat.le_of_ble_eq_true rfl) dX12_doesRite_123 (fun v123 μ123 e9 => c_X12_done _ _ v123 μ123 e9) h (fun v123 μ123 h => ?_) rfl
      exact xx_iret C E rfl ⟨Nat.le_of_ble_eq_true rfl, Nat.le_of_ble_eq_true rfl⟩ dX12_doesRite_126 h
    · have L45 : ∀ (fu45 : Nat) (x2_45 : Int) (μ45 : mu_T), f_X12_doesRite_L45 J84 fu45 x2_45 μ45 = some (a, μr) → wx_ G X 9 ad (ceM G ad) μ45 0 0 45 [(0, .ref (ad 0)), (1, .int (iI v30)), (2, .int (iI x2_45))] [] := by
        intro fu45
        induction fu45 with
        | zero => intro x2_45 μ45 h; exact nn_ h
        | succ fu45 K45 =>
          intro x2_45 μ45 h
          rw [f_X12_doesRite_L45] at h
          generalize f_X12_doesRite_L45 J84 fu45 = R45 at K45 h
          refine xx_iload_n C 46 rfl 2 dX12_doesRite_45 rfl rfl ?_
          refine xx_aload_n C 47 rfl 0 dX12_doesRite_46 rfl rfl ?_
          refine xx_getr (fi := 0) C 50 rfl (by decide) (ceM_0 _ _ _) rfl in_X12 (by decide) rfl rfl w_1171 dX12_doesRite_47 ?_
          refine xx_bipush C 52 rfl dX12_doesRite_50 (by decide) ?_
          refine xx_iaload C 53 rfl (by decide) (fun _ => rfl) (by decide) dX12_doesRite_52 h (fun v52 h => ?_)
          refine xx_icmp_ge (tgt := 84) C 56 rfl dX12_doesRite_53 (by decide) h (fun h => ?_) (fun h => ?_)
          · refine xx_sub [0, 1] rfl ?_
            exact K84 μ45 h
          · refine xx_aload_n C 57 rfl 0 dX12_doesRite_56 rfl rfl ?_
            refine xx_getr (fi := 0) C 60 rfl (by decide) (ceM_0 _ _ _) rfl in_X12 (by decide) rfl rfl w_1171 dX12_doesRite_57 ?_
            refine xx_sipush C 63 rfl dX12_doesRite_60 (by decide) ?_
            refine xx_iload_n C 64 rfl 2 dX12_doesRite_63 rfl rfl ?_
            refine xx_iadd C 65 rfl dX12_doesRite_64 ?_
            refine xx_aload_n C 66 rfl 0 dX12_doesRite_65 rfl rfl ?_
            refine xx_getr (fi := 0) C 69 rfl (by decide) (ceM_0 _ _ _) rfl in_X12 (by decide) rfl rfl w_1171 dX12_doesRite_66 ?_
            refine xx_sipush C 72 rfl dX12_doesRite_69 (by decide) ?_
            refine xx_iload_n C 73 rfl 2 dX12_doesRite_72 rfl rfl ?_
            refine xx_iadd C 74 rfl dX12_doesRite_73 ?_
            refine xx_iconst C 75 rfl dX12_doesRite_74 ?_
            refine xx_iadd C 76 rfl dX12_doesRite_75 ?_
            refine xx_iaload C 77 rfl (by decide) (fun _ => rfl) (by decide) dX12_doesRite_76 h (fun v76 h => ?_)
            refine xx_iastore C 78 rfl (by decide) (fun _ => rfl) (by decide) dX12_doesRite_77 h (fun μ77 h => ?_)
            refine xx_iincn C 81 rfl 2 (by decide) dX12_doesRite_78 rfl h (fun n78 h => ?_)
            refine xx_lv (lv1 := [(2, .int (iI n78)), (0, .ref (ad 0)), (1, .int (iI v30))]) rfl ?_
            refine xx_goto C 45 dX12_doesRite_81 (by decide) ?_
            refine xx_sub [1, 2, 0] rfl ?_
            exact K45 n78 μ77 h
      refine xx_sub [2, 1, 0] rfl ?_
      exact L45 _ _ _ h
  · refine xx_aload_n C 11 rfl 0 dX12_doesRite_10 rfl rfl ?_
    refine xx_bipush C 13 rfl dX12_doesRite_11 (by decide) ?_
    refine xx_aload_n C 14 rfl 0 dX12_doesRite_13 rfl rfl ?_
    refine xx_getr (fi := 0) C 17 rfl (by decide) (ceM_0 _ _ _) rfl in_X12 (by decide) rfl rfl w_1171 dX12_doesRite_14 ?_
    refine xx_iconst C 18 rfl dX12_doesRite_17 ?_
    refine xx_iaload C 19 rfl (by decide) (fun _ => rfl) (by decide) dX12_doesRite_18 h (fun v18 h => ?_)
    refine xx_cVi (As := [.int (iI 6), .int (iI v18)]) (st := []) (o := 0) C 22 rfl (by decide) (ceM_0 _ _ _) rfl rfl ca_X12_refused cv_X12_refused w_1244 rfl ⟨Nat.le_of_ble_eq_true rfl, Nat.le_of_ble_eq_true rfl⟩ ⟨Nat.le_of_ble_eq_true rfl, Nat.le_of_ble_eq_true rfl⟩ (Nat.le_of_ble_eq_true rfl) dX12_doesRite_19 (fun v19 μ19 e9 => c_X12_refused _ _ _ v19 μ19 e9) h (fun v19 μ19 h => ?_) rfl
    exact xx_iret C E rfl ⟨Nat.le_of_ble_eq_true rfl, Nat.le_of_ble_eq_true rfl⟩ dX12_doesRite_22 h
end
section
theorem dX12_urn_0 : decode cX12_urn 0 = .ok (.aload_n 0, 1) := by decide +kernel
theorem dX12_urn_1 : decode cX12_urn 1 = .ok (.invokevirtual 111, 3) := by decide +kernel
theorem dX12_urn_4 : decode cX12_urn 4 = .ok (.aload_n 0, 1) := by decide +kernel
theorem dX12_urn_5 : decode cX12_urn 5 = .ok (.aload_n 0, 1) := by decide +kernel
theorem dX12_urn_6 : decode cX12_urn 6 = .ok (.iload_n 1, 1) := by decide +kernel
theorem dX12_urn_7 : decode cX12_urn 7 = .ok (.invokevirtual 114, 3) := by decide +kernel
theorem dX12_urn_10 : decode cX12_urn 10 = .ok (.invokevirtual 118, 3) := by decide +kernel
theorem dX12_urn_13 : decode cX12_urn 13 = .ok (.ireturn, 1) := by decide +kernel
theorem dX12_tie_0 : decode cX12_tie 0 = .ok (.aload_n 0, 1) := by decide +kernel
theorem dX12_tie_1 : decode cX12_tie 1 = .ok (.invokevirtual 111, 3) := by decide +kernel
theorem dX12_tie_4 : decode cX12_tie 4 = .ok (.aload_n 0, 1) := by decide +kernel
theorem dX12_tie_5 : decode cX12_tie 5 = .ok (.aload_n 0, 1) := by decide +kernel
theorem dX12_tie_6 : decode cX12_tie 6 = .ok (.iload_n 1, 1) := by decide +kernel
theorem dX12_tie_7 : decode cX12_tie 7 = .ok (.iload_n 2, 1) := by decide +kernel
theorem dX12_tie_8 : decode cX12_tie 8 = .ok (.iload_n 3, 1) := by decide +kernel
theorem dX12_tie_9 : decode cX12_tie 9 = .ok (.invokevirtual 121, 3) := by decide +kernel
theorem dX12_tie_12 : decode cX12_tie 12 = .ok (.invokevirtual 118, 3) := by decide +kernel
theorem dX12_tie_15 : decode cX12_tie 15 = .ok (.ireturn, 1) := by decide +kernel
theorem dX12_untie_0 : decode cX12_untie 0 = .ok (.aload_n 0, 1) := by decide +kernel
theorem dX12_untie_1 : decode cX12_untie 1 = .ok (.invokevirtual 111, 3) := by decide +kernel
theorem dX12_untie_4 : decode cX12_untie 4 = .ok (.aload_n 0, 1) := by decide +kernel
theorem dX12_untie_5 : decode cX12_untie 5 = .ok (.aload_n 0, 1) := by decide +kernel
theorem dX12_untie_6 : decode cX12_untie 6 = .ok (.iload_n 1, 1) := by decide +kernel
theorem dX12_untie_7 : decode cX12_untie 7 = .ok (.iload_n 2, 1) := by decide +kernel
theorem dX12_untie_8 : decode cX12_untie 8 = .ok (.invokevirtual 125, 3) := by decide +kernel
theorem dX12_untie_11 : decode cX12_untie 11 = .ok (.invokevirtual 118, 3) := by decide +kernel
theorem dX12_untie_14 : decode cX12_untie 14 = .ok (.ireturn, 1) := by decide +kernel
theorem dX12_weak_0 : decode cX12_weak 0 = .ok (.aload_n 0, 1) := by decide +kernel
theorem dX12_weak_1 : decode cX12_weak 1 = .ok (.invokevirtual 111, 3) := by decide +kernel
theorem dX12_weak_4 : decode cX12_weak 4 = .ok (.aload_n 0, 1) := by decide +kernel
theorem dX12_weak_5 : decode cX12_weak 5 = .ok (.aload_n 0, 1) := by decide +kernel
theorem dX12_weak_6 : decode cX12_weak 6 = .ok (.iload_n 1, 1) := by decide +kernel
theorem dX12_weak_7 : decode cX12_weak 7 = .ok (.iload_n 2, 1) := by decide +kernel
theorem dX12_weak_8 : decode cX12_weak 8 = .ok (.invokevirtual 128, 3) := by decide +kernel
theorem dX12_weak_11 : decode cX12_weak 11 = .ok (.invokevirtual 118, 3) := by decide +kernel
theorem dX12_weak_14 : decode cX12_weak 14 = .ok (.ireturn, 1) := by decide +kernel
theorem dX12_unweak_0 : decode cX12_unweak 0 = .ok (.aload_n 0, 1) := by decide +kernel
theorem dX12_unweak_1 : decode cX12_unweak 1 = .ok (.invokevirtual 111, 3) := by decide +kernel
theorem dX12_unweak_4 : decode cX12_unweak 4 = .ok (.aload_n 0, 1) := by decide +kernel
theorem dX12_unweak_5 : decode cX12_unweak 5 = .ok (.iload_n 1, 1) := by decide +kernel
theorem dX12_unweak_6 : decode cX12_unweak 6 = .ok (.invokevirtual 97, 3) := by decide +kernel
theorem dX12_unweak_9 : decode cX12_unweak 9 = .ok (.ifCond .ne 6, 3) := by decide +kernel
theorem dX12_unweak_12 : decode cX12_unweak 12 = .ok (.bipush (-11), 2) := by decide +kernel
theorem dX12_unweak_14 : decode cX12_unweak 14 = .ok (.ireturn, 1) := by decide +kernel
theorem dX12_unweak_15 : decode cX12_unweak 15 = .ok (.aload_n 0, 1) := by decide +kernel
theorem dX12_unweak_16 : decode cX12_unweak 16 = .ok (.getfield 7, 3) := by decide +kernel
theorem dX12_unweak_19 : decode cX12_unweak 19 = .ok (.bipush 113, 2) := by decide +kernel
theorem dX12_unweak_21 : decode cX12_unweak 21 = .ok (.iload_n 1, 1) := by decide +kernel
theorem dX12_unweak_22 : decode cX12_unweak 22 = .ok (.iadd, 1) := by decide +kernel
theorem dX12_unweak_23 : decode cX12_unweak 23 = .ok (.iaload, 1) := by decide +kernel
theorem dX12_unweak_24 : decode cX12_unweak 24 = .ok (.istore_n 2, 1) := by decide +kernel
theorem dX12_unweak_25 : decode cX12_unweak 25 = .ok (.aload_n 0, 1) := by decide +kernel
theorem dX12_unweak_26 : decode cX12_unweak 26 = .ok (.getfield 7, 3) := by decide +kernel
theorem dX12_unweak_29 : decode cX12_unweak 29 = .ok (.bipush 113, 2) := by decide +kernel
theorem dX12_unweak_31 : decode cX12_unweak 31 = .ok (.iload_n 1, 1) := by decide +kernel
theorem dX12_unweak_32 : decode cX12_unweak 32 = .ok (.iadd, 1) := by decide +kernel
theorem dX12_unweak_33 : decode cX12_unweak 33 = .ok (.bipush (-15), 2) := by decide +kernel
theorem dX12_unweak_35 : decode cX12_unweak 35 = .ok (.iastore, 1) := by decide +kernel
theorem dX12_unweak_36 : decode cX12_unweak 36 = .ok (.aload_n 0, 1) := by decide +kernel
theorem dX12_unweak_37 : decode cX12_unweak 37 = .ok (.iload_n 2, 1) := by decide +kernel
theorem dX12_unweak_38 : decode cX12_unweak 38 = .ok (.bipush (-15), 2) := by decide +kernel
theorem dX12_unweak_40 : decode cX12_unweak 40 = .ok (.if_icmp .ne 12, 3) := by decide +kernel
theorem dX12_unweak_43 : decode cX12_unweak 43 = .ok (.aload_n 0, 1) := by decide +kernel
theorem dX12_unweak_44 : decode cX12_unweak 44 = .ok (.iconst 2, 1) := by decide +kernel
theorem dX12_unweak_45 : decode cX12_unweak 45 = .ok (.iconst 4, 1) := by decide +kernel
theorem dX12_unweak_46 : decode cX12_unweak 46 = .ok (.invokevirtual 91, 3) := by decide +kernel
theorem dX12_unweak_49 : decode cX12_unweak 49 = .ok (.goto 8, 3) := by decide +kernel
theorem dX12_unweak_52 : decode cX12_unweak 52 = .ok (.aload_n 0, 1) := by decide +kernel
theorem dX12_unweak_53 : decode cX12_unweak 53 = .ok (.iload_n 2, 1) := by decide +kernel
theorem dX12_unweak_54 : decode cX12_unweak 54 = .ok (.invokevirtual 94, 3) := by decide +kernel
theorem dX12_unweak_57 : decode cX12_unweak 57 = .ok (.invokevirtual 118, 3) := by decide +kernel
theorem dX12_unweak_60 : decode cX12_unweak 60 = .ok (.ireturn, 1) := by decide +kernel
theorem dX12_name_0 : decode cX12_name 0 = .ok (.aload_n 0, 1) := by decide +kernel
theorem dX12_name_1 : decode cX12_name 1 = .ok (.invokevirtual 111, 3) := by decide +kernel
theorem dX12_name_4 : decode cX12_name 4 = .ok (.aload_n 0, 1) := by decide +kernel
theorem dX12_name_5 : decode cX12_name 5 = .ok (.aload_n 0, 1) := by decide +kernel
theorem dX12_name_6 : decode cX12_name 6 = .ok (.iload_n 1, 1) := by decide +kernel
theorem dX12_name_7 : decode cX12_name 7 = .ok (.iload_n 2, 1) := by decide +kernel
theorem dX12_name_8 : decode cX12_name 8 = .ok (.invokevirtual 131, 3) := by decide +kernel
theorem dX12_name_11 : decode cX12_name 11 = .ok (.invokevirtual 118, 3) := by decide +kernel
theorem dX12_name_14 : decode cX12_name 14 = .ok (.ireturn, 1) := by decide +kernel
theorem dX12_drop_0 : decode cX12_drop 0 = .ok (.aload_n 0, 1) := by decide +kernel
theorem dX12_drop_1 : decode cX12_drop 1 = .ok (.invokevirtual 111, 3) := by decide +kernel
theorem dX12_drop_4 : decode cX12_drop 4 = .ok (.aload_n 0, 1) := by decide +kernel
theorem dX12_drop_5 : decode cX12_drop 5 = .ok (.aload_n 0, 1) := by decide +kernel
theorem dX12_drop_6 : decode cX12_drop 6 = .ok (.iload_n 1, 1) := by decide +kernel
theorem dX12_drop_7 : decode cX12_drop 7 = .ok (.invokevirtual 134, 3) := by decide +kernel
theorem dX12_drop_10 : decode cX12_drop 10 = .ok (.invokevirtual 118, 3) := by decide +kernel
theorem dX12_drop_13 : decode cX12_drop 13 = .ok (.ireturn, 1) := by decide +kernel
theorem dX12_holds_0 : decode cX12_holds 0 = .ok (.iconst 0, 1) := by decide +kernel
theorem dX12_holds_1 : decode cX12_holds 1 = .ok (.istore_n 2, 1) := by decide +kernel
theorem dX12_holds_2 : decode cX12_holds 2 = .ok (.iconst 0, 1) := by decide +kernel
theorem dX12_holds_3 : decode cX12_holds 3 = .ok (.istore_n 3, 1) := by decide +kernel
theorem dX12_holds_4 : decode cX12_holds 4 = .ok (.iload_n 3, 1) := by decide +kernel
theorem dX12_holds_5 : decode cX12_holds 5 = .ok (.iconst 4, 1) := by decide +kernel
theorem dX12_holds_6 : decode cX12_holds 6 = .ok (.if_icmp .ge 32, 3) := by decide +kernel
theorem dX12_holds_9 : decode cX12_holds 9 = .ok (.iload_n 2, 1) := by decide +kernel
theorem dX12_holds_10 : decode cX12_holds 10 = .ok (.aload_n 0, 1) := by decide +kernel
theorem dX12_holds_11 : decode cX12_holds 11 = .ok (.getfield 7, 3) := by decide +kernel
theorem dX12_holds_14 : decode cX12_holds 14 = .ok (.iload_n 1, 1) := by decide +kernel
theorem dX12_holds_15 : decode cX12_holds 15 = .ok (.iload_n 3, 1) := by decide +kernel
theorem dX12_holds_16 : decode cX12_holds 16 = .ok (.invokestatic 62, 3) := by decide +kernel
theorem dX12_holds_19 : decode cX12_holds 19 = .ok (.iaload, 1) := by decide +kernel
theorem dX12_holds_20 : decode cX12_holds 20 = .ok (.bipush (-15), 2) := by decide +kernel
theorem dX12_holds_22 : decode cX12_holds 22 = .ok (.if_icmp .ne 7, 3) := by decide +kernel
theorem dX12_holds_25 : decode cX12_holds 25 = .ok (.iconst 0, 1) := by decide +kernel
theorem dX12_holds_26 : decode cX12_holds 26 = .ok (.goto 4, 3) := by decide +kernel
theorem dX12_holds_29 : decode cX12_holds 29 = .ok (.iconst 1, 1) := by decide +kernel
theorem dX12_holds_30 : decode cX12_holds 30 = .ok (.iadd, 1) := by decide +kernel
theorem dX12_holds_31 : decode cX12_holds 31 = .ok (.istore_n 2, 1) := by decide +kernel
theorem dX12_holds_32 : decode cX12_holds 32 = .ok (.iinc 3 1, 3) := by decide +kernel
theorem dX12_holds_35 : decode cX12_holds 35 = .ok (.goto (-31), 3) := by decide +kernel
theorem dX12_holds_38 : decode cX12_holds 38 = .ok (.iload_n 2, 1) := by decide +kernel
theorem dX12_holds_39 : decode cX12_holds 39 = .ok (.ireturn, 1) := by decide +kernel
theorem dX12_held_0 : decode cX12_held 0 = .ok (.iconst 0, 1) := by decide +kernel
theorem dX12_held_1 : decode cX12_held 1 = .ok (.istore_n 2, 1) := by decide +kernel
theorem dX12_held_2 : decode cX12_held 2 = .ok (.iconst 0, 1) := by decide +kernel
theorem dX12_held_3 : decode cX12_held 3 = .ok (.istore_n 3, 1) := by decide +kernel
theorem dX12_held_4 : decode cX12_held 4 = .ok (.iload_n 3, 1) := by decide +kernel
theorem dX12_held_5 : decode cX12_held 5 = .ok (.bipush 96, 2) := by decide +kernel
theorem dX12_held_7 : decode cX12_held 7 = .ok (.if_icmp .ge 31, 3) := by decide +kernel
theorem dX12_held_10 : decode cX12_held 10 = .ok (.iload_n 2, 1) := by decide +kernel
theorem dX12_held_11 : decode cX12_held 11 = .ok (.aload_n 0, 1) := by decide +kernel
theorem dX12_held_12 : decode cX12_held 12 = .ok (.getfield 7, 3) := by decide +kernel
theorem dX12_held_15 : decode cX12_held 15 = .ok (.sipush 137, 3) := by decide +kernel
theorem dX12_held_18 : decode cX12_held 18 = .ok (.iload_n 3, 1) := by decide +kernel
theorem dX12_held_19 : decode cX12_held 19 = .ok (.iadd, 1) := by decide +kernel
theorem dX12_held_20 : decode cX12_held 20 = .ok (.iaload, 1) := by decide +kernel
theorem dX12_held_21 : decode cX12_held 21 = .ok (.iload_n 1, 1) := by decide +kernel
theorem dX12_held_22 : decode cX12_held 22 = .ok (.if_icmp .ne 7, 3) := by decide +kernel
theorem dX12_held_25 : decode cX12_held 25 = .ok (.iconst 1, 1) := by decide +kernel
theorem dX12_held_26 : decode cX12_held 26 = .ok (.goto 4, 3) := by decide +kernel
theorem dX12_held_29 : decode cX12_held 29 = .ok (.iconst 0, 1) := by decide +kernel
theorem dX12_held_30 : decode cX12_held 30 = .ok (.iadd, 1) := by decide +kernel
theorem dX12_held_31 : decode cX12_held 31 = .ok (.istore_n 2, 1) := by decide +kernel
theorem dX12_held_32 : decode cX12_held 32 = .ok (.iinc 3 1, 3) := by decide +kernel
theorem dX12_held_35 : decode cX12_held 35 = .ok (.goto (-31), 3) := by decide +kernel
theorem dX12_held_38 : decode cX12_held 38 = .ok (.iconst 0, 1) := by decide +kernel
theorem dX12_held_39 : decode cX12_held 39 = .ok (.istore_n 3, 1) := by decide +kernel
theorem dX12_held_40 : decode cX12_held 40 = .ok (.iload_n 3, 1) := by decide +kernel
theorem dX12_held_41 : decode cX12_held 41 = .ok (.bipush 6, 2) := by decide +kernel
theorem dX12_held_43 : decode cX12_held 43 = .ok (.if_icmp .ge 30, 3) := by decide +kernel
theorem dX12_held_46 : decode cX12_held 46 = .ok (.iload_n 2, 1) := by decide +kernel
theorem dX12_held_47 : decode cX12_held 47 = .ok (.aload_n 0, 1) := by decide +kernel
theorem dX12_held_48 : decode cX12_held 48 = .ok (.getfield 7, 3) := by decide +kernel
theorem dX12_held_51 : decode cX12_held 51 = .ok (.bipush 11, 2) := by decide +kernel
theorem dX12_held_53 : decode cX12_held 53 = .ok (.iload_n 3, 1) := by decide +kernel
theorem dX12_held_54 : decode cX12_held 54 = .ok (.iadd, 1) := by decide +kernel
theorem dX12_held_55 : decode cX12_held 55 = .ok (.iaload, 1) := by decide +kernel
theorem dX12_held_56 : decode cX12_held 56 = .ok (.iload_n 1, 1) := by decide +kernel
theorem dX12_held_57 : decode cX12_held 57 = .ok (.if_icmp .ne 7, 3) := by decide +kernel
theorem dX12_held_60 : decode cX12_held 60 = .ok (.iconst 1, 1) := by decide +kernel
theorem dX12_held_61 : decode cX12_held 61 = .ok (.goto 4, 3) := by decide +kernel
theorem dX12_held_64 : decode cX12_held 64 = .ok (.iconst 0, 1) := by decide +kernel
theorem dX12_held_65 : decode cX12_held 65 = .ok (.iadd, 1) := by decide +kernel
theorem dX12_held_66 : decode cX12_held 66 = .ok (.istore_n 2, 1) := by decide +kernel
theorem dX12_held_67 : decode cX12_held 67 = .ok (.iinc 3 1, 3) := by decide +kernel
theorem dX12_held_70 : decode cX12_held 70 = .ok (.goto (-30), 3) := by decide +kernel
theorem dX12_held_73 : decode cX12_held 73 = .ok (.iload_n 2, 1) := by decide +kernel
theorem dX12_held_74 : decode cX12_held 74 = .ok (.ireturn, 1) := by decide +kernel
theorem dX12_urnOf_0 : decode cX12_urnOf 0 = .ok (.aload_n 0, 1) := by decide +kernel
theorem dX12_urnOf_1 : decode cX12_urnOf 1 = .ok (.iload_n 1, 1) := by decide +kernel
theorem dX12_urnOf_2 : decode cX12_urnOf 2 = .ok (.invokevirtual 97, 3) := by decide +kernel
theorem dX12_urnOf_5 : decode cX12_urnOf 5 = .ok (.ifCond .ne 6, 3) := by decide +kernel
theorem dX12_urnOf_8 : decode cX12_urnOf 8 = .ok (.bipush (-11), 2) := by decide +kernel
theorem dX12_urnOf_10 : decode cX12_urnOf 10 = .ok (.ireturn, 1) := by decide +kernel
theorem dX12_urnOf_11 : decode cX12_urnOf 11 = .ok (.iload_n 2, 1) := by decide +kernel
theorem dX12_urnOf_12 : decode cX12_urnOf 12 = .ok (.tableswitch 92 0 5 #[40, 50, 60, 66, 72, 82], 40) := by decide +kernel
theorem dX12_urnOf_52 : decode cX12_urnOf 52 = .ok (.aload_n 0, 1) := by decide +kernel
theorem dX12_urnOf_53 : decode cX12_urnOf 53 = .ok (.getfield 7, 3) := by decide +kernel
theorem dX12_urnOf_56 : decode cX12_urnOf 56 = .ok (.bipush 41, 2) := by decide +kernel
theorem dX12_urnOf_58 : decode cX12_urnOf 58 = .ok (.iload_n 1, 1) := by decide +kernel
theorem dX12_urnOf_59 : decode cX12_urnOf 59 = .ok (.iadd, 1) := by decide +kernel
theorem dX12_urnOf_60 : decode cX12_urnOf 60 = .ok (.iaload, 1) := by decide +kernel
theorem dX12_urnOf_61 : decode cX12_urnOf 61 = .ok (.ireturn, 1) := by decide +kernel
theorem dX12_urnOf_62 : decode cX12_urnOf 62 = .ok (.aload_n 0, 1) := by decide +kernel
theorem dX12_urnOf_63 : decode cX12_urnOf 63 = .ok (.getfield 7, 3) := by decide +kernel
theorem dX12_urnOf_66 : decode cX12_urnOf 66 = .ok (.bipush 65, 2) := by decide +kernel
theorem dX12_urnOf_68 : decode cX12_urnOf 68 = .ok (.iload_n 1, 1) := by decide +kernel
theorem dX12_urnOf_69 : decode cX12_urnOf 69 = .ok (.iadd, 1) := by decide +kernel
theorem dX12_urnOf_70 : decode cX12_urnOf 70 = .ok (.iaload, 1) := by decide +kernel
theorem dX12_urnOf_71 : decode cX12_urnOf 71 = .ok (.ireturn, 1) := by decide +kernel
theorem dX12_urnOf_72 : decode cX12_urnOf 72 = .ok (.aload_n 0, 1) := by decide +kernel
theorem dX12_urnOf_73 : decode cX12_urnOf 73 = .ok (.iload_n 1, 1) := by decide +kernel
theorem dX12_urnOf_74 : decode cX12_urnOf 74 = .ok (.invokevirtual 137, 3) := by decide +kernel
theorem dX12_urnOf_77 : decode cX12_urnOf 77 = .ok (.ireturn, 1) := by decide +kernel
theorem dX12_urnOf_78 : decode cX12_urnOf 78 = .ok (.aload_n 0, 1) := by decide +kernel
theorem dX12_urnOf_79 : decode cX12_urnOf 79 = .ok (.iload_n 1, 1) := by decide +kernel
theorem dX12_urnOf_80 : decode cX12_urnOf 80 = .ok (.invokevirtual 140, 3) := by decide +kernel
theorem dX12_urnOf_83 : decode cX12_urnOf 83 = .ok (.ireturn, 1) := by decide +kernel
theorem dX12_urnOf_84 : decode cX12_urnOf 84 = .ok (.aload_n 0, 1) := by decide +kernel
theorem dX12_urnOf_85 : decode cX12_urnOf 85 = .ok (.getfield 7, 3) := by decide +kernel
theorem dX12_urnOf_88 : decode cX12_urnOf 88 = .ok (.bipush 113, 2) := by decide +kernel
theorem dX12_urnOf_90 : decode cX12_urnOf 90 = .ok (.iload_n 1, 1) := by decide +kernel
theorem dX12_urnOf_91 : decode cX12_urnOf 91 = .ok (.iadd, 1) := by decide +kernel
theorem dX12_urnOf_92 : decode cX12_urnOf 92 = .ok (.iaload, 1) := by decide +kernel
theorem dX12_urnOf_93 : decode cX12_urnOf 93 = .ok (.ireturn, 1) := by decide +kernel
theorem dX12_urnOf_94 : decode cX12_urnOf 94 = .ok (.aload_n 0, 1) := by decide +kernel
theorem dX12_urnOf_95 : decode cX12_urnOf 95 = .ok (.getfield 7, 3) := by decide +kernel
theorem dX12_urnOf_98 : decode cX12_urnOf 98 = .ok (.bipush 89, 2) := by decide +kernel
theorem dX12_urnOf_100 : decode cX12_urnOf 100 = .ok (.iload_n 1, 1) := by decide +kernel
theorem dX12_urnOf_101 : decode cX12_urnOf 101 = .ok (.iadd, 1) := by decide +kernel
theorem dX12_urnOf_102 : decode cX12_urnOf 102 = .ok (.iaload, 1) := by decide +kernel
theorem dX12_urnOf_103 : decode cX12_urnOf 103 = .ok (.ireturn, 1) := by decide +kernel
theorem dX12_urnOf_104 : decode cX12_urnOf 104 = .ok (.bipush (-12), 2) := by decide +kernel
theorem dX12_urnOf_106 : decode cX12_urnOf 106 = .ok (.ireturn, 1) := by decide +kernel
theorem dX12_threadOf_0 : decode cX12_threadOf 0 = .ok (.aload_n 0, 1) := by decide +kernel
theorem dX12_threadOf_1 : decode cX12_threadOf 1 = .ok (.iload_n 1, 1) := by decide +kernel
theorem dX12_threadOf_2 : decode cX12_threadOf 2 = .ok (.invokevirtual 97, 3) := by decide +kernel
theorem dX12_threadOf_5 : decode cX12_threadOf 5 = .ok (.ifCond .eq 25, 3) := by decide +kernel
theorem dX12_threadOf_8 : decode cX12_threadOf 8 = .ok (.iload_n 2, 1) := by decide +kernel
theorem dX12_threadOf_9 : decode cX12_threadOf 9 = .ok (.iconst 0, 1) := by decide +kernel
theorem dX12_threadOf_10 : decode cX12_threadOf 10 = .ok (.iconst 3, 1) := by decide +kernel
theorem dX12_threadOf_11 : decode cX12_threadOf 11 = .ok (.invokestatic 58, 3) := by decide +kernel
theorem dX12_threadOf_14 : decode cX12_threadOf 14 = .ok (.ifCond .eq 16, 3) := by decide +kernel
theorem dX12_threadOf_17 : decode cX12_threadOf 17 = .ok (.aload_n 0, 1) := by decide +kernel
theorem dX12_threadOf_18 : decode cX12_threadOf 18 = .ok (.getfield 7, 3) := by decide +kernel
theorem dX12_threadOf_21 : decode cX12_threadOf 21 = .ok (.iload_n 1, 1) := by decide +kernel
theorem dX12_threadOf_22 : decode cX12_threadOf 22 = .ok (.iload_n 2, 1) := by decide +kernel
theorem dX12_threadOf_23 : decode cX12_threadOf 23 = .ok (.invokestatic 62, 3) := by decide +kernel
theorem dX12_threadOf_26 : decode cX12_threadOf 26 = .ok (.iaload, 1) := by decide +kernel
theorem dX12_threadOf_27 : decode cX12_threadOf 27 = .ok (.goto 5, 3) := by decide +kernel
theorem dX12_threadOf_30 : decode cX12_threadOf 30 = .ok (.bipush (-11), 2) := by decide +kernel
theorem dX12_threadOf_32 : decode cX12_threadOf 32 = .ok (.ireturn, 1) := by decide +kernel
theorem dX12_named_0 : decode cX12_named 0 = .ok (.iload_n 1, 1) := by decide +kernel
theorem dX12_named_1 : decode cX12_named 1 = .ok (.iconst 0, 1) := by decide +kernel
theorem dX12_named_2 : decode cX12_named 2 = .ok (.iconst 5, 1) := by decide +kernel
theorem dX12_named_3 : decode cX12_named 3 = .ok (.invokestatic 58, 3) := by decide +kernel
theorem dX12_named_6 : decode cX12_named 6 = .ok (.ifCond .eq 15, 3) := by decide +kernel
theorem dX12_named_9 : decode cX12_named 9 = .ok (.aload_n 0, 1) := by decide +kernel
theorem dX12_named_10 : decode cX12_named 10 = .ok (.getfield 7, 3) := by decide +kernel
theorem dX12_named_13 : decode cX12_named 13 = .ok (.bipush 11, 2) := by decide +kernel
theorem dX12_named_15 : decode cX12_named 15 = .ok (.iload_n 1, 1) := by decide +kernel
theorem dX12_named_16 : decode cX12_named 16 = .ok (.iadd, 1) := by decide +kernel
theorem dX12_named_17 : decode cX12_named 17 = .ok (.iaload, 1) := by decide +kernel
theorem dX12_named_18 : decode cX12_named 18 = .ok (.goto 5, 3) := by decide +kernel
theorem dX12_named_21 : decode cX12_named 21 = .ok (.bipush (-11), 2) := by decide +kernel
theorem dX12_named_23 : decode cX12_named 23 = .ok (.ireturn, 1) := by decide +kernel
theorem dX12_begin_0 : decode cX12_begin 0 = .ok (.aload_n 0, 1) := by decide +kernel
theorem dX12_begin_1 : decode cX12_begin 1 = .ok (.invokevirtual 111, 3) := by decide +kernel
theorem dX12_begin_4 : decode cX12_begin 4 = .ok (.aload_n 0, 1) := by decide +kernel
theorem dX12_begin_5 : decode cX12_begin 5 = .ok (.aload_n 0, 1) := by decide +kernel
theorem dX12_begin_6 : decode cX12_begin 6 = .ok (.getfield 7, 3) := by decide +kernel
theorem dX12_begin_9 : decode cX12_begin 9 = .ok (.iconst 0, 1) := by decide +kernel
theorem dX12_begin_10 : decode cX12_begin 10 = .ok (.iaload, 1) := by decide +kernel
theorem dX12_begin_11 : decode cX12_begin 11 = .ok (.ifCond .le 17, 3) := by decide +kernel
theorem dX12_begin_14 : decode cX12_begin 14 = .ok (.aload_n 0, 1) := by decide +kernel
theorem dX12_begin_15 : decode cX12_begin 15 = .ok (.iconst 4, 1) := by decide +kernel
theorem dX12_begin_16 : decode cX12_begin 16 = .ok (.aload_n 0, 1) := by decide +kernel
theorem dX12_begin_17 : decode cX12_begin 17 = .ok (.getfield 7, 3) := by decide +kernel
theorem dX12_begin_20 : decode cX12_begin 20 = .ok (.iconst 0, 1) := by decide +kernel
theorem dX12_begin_21 : decode cX12_begin 21 = .ok (.iaload, 1) := by decide +kernel
theorem dX12_begin_22 : decode cX12_begin 22 = .ok (.invokevirtual 91, 3) := by decide +kernel
theorem dX12_begin_25 : decode cX12_begin 25 = .ok (.goto 11, 3) := by decide +kernel
theorem dX12_begin_28 : decode cX12_begin 28 = .ok (.aload_n 0, 1) := by decide +kernel
theorem dX12_begin_29 : decode cX12_begin 29 = .ok (.aload_n 0, 1) := by decide +kernel
theorem dX12_begin_30 : decode cX12_begin 30 = .ok (.invokevirtual 107, 3) := by decide +kernel
theorem dX12_begin_33 : decode cX12_begin 33 = .ok (.invokevirtual 94, 3) := by decide +kernel
theorem dX12_begin_36 : decode cX12_begin 36 = .ok (.invokevirtual 118, 3) := by decide +kernel
theorem dX12_begin_39 : decode cX12_begin 39 = .ok (.ireturn, 1) := by decide +kernel
theorem dX12_step_0 : decode cX12_step 0 = .ok (.aload_n 0, 1) := by decide +kernel
theorem dX12_step_1 : decode cX12_step 1 = .ok (.invokevirtual 111, 3) := by decide +kernel
theorem dX12_step_4 : decode cX12_step 4 = .ok (.aload_n 0, 1) := by decide +kernel
theorem dX12_step_5 : decode cX12_step 5 = .ok (.aload_n 0, 1) := by decide +kernel
theorem dX12_step_6 : decode cX12_step 6 = .ok (.iload_n 1, 1) := by decide +kernel
theorem dX12_step_7 : decode cX12_step 7 = .ok (.invokevirtual 143, 3) := by decide +kernel
theorem dX12_step_10 : decode cX12_step 10 = .ok (.invokevirtual 118, 3) := by decide +kernel
theorem dX12_step_13 : decode cX12_step 13 = .ok (.ireturn, 1) := by decide +kernel
theorem dX12_round_0 : decode cX12_round 0 = .ok (.aload_n 0, 1) := by decide +kernel
theorem dX12_round_1 : decode cX12_round 1 = .ok (.invokevirtual 111, 3) := by decide +kernel
theorem dX12_round_4 : decode cX12_round 4 = .ok (.aload_n 0, 1) := by decide +kernel
theorem dX12_round_5 : decode cX12_round 5 = .ok (.aload_n 0, 1) := by decide +kernel
theorem dX12_round_6 : decode cX12_round 6 = .ok (.invokevirtual 146, 3) := by decide +kernel
theorem dX12_round_9 : decode cX12_round 9 = .ok (.invokevirtual 118, 3) := by decide +kernel
theorem dX12_round_12 : decode cX12_round 12 = .ok (.ireturn, 1) := by decide +kernel
theorem dX12_rite_0 : decode cX12_rite 0 = .ok (.aload_n 0, 1) := by decide +kernel
theorem dX12_rite_1 : decode cX12_rite 1 = .ok (.invokevirtual 111, 3) := by decide +kernel
theorem dX12_rite_4 : decode cX12_rite 4 = .ok (.aload_n 0, 1) := by decide +kernel
theorem dX12_rite_5 : decode cX12_rite 5 = .ok (.aload_n 0, 1) := by decide +kernel
theorem dX12_rite_6 : decode cX12_rite 6 = .ok (.invokevirtual 149, 3) := by decide +kernel
theorem dX12_rite_9 : decode cX12_rite 9 = .ok (.invokevirtual 118, 3) := by decide +kernel
theorem dX12_rite_12 : decode cX12_rite 12 = .ok (.ireturn, 1) := by decide +kernel
theorem dX12_due_0 : decode cX12_due 0 = .ok (.iload_n 1, 1) := by decide +kernel
theorem dX12_due_1 : decode cX12_due 1 = .ok (.iconst 0, 1) := by decide +kernel
theorem dX12_due_2 : decode cX12_due 2 = .ok (.aload_n 0, 1) := by decide +kernel
theorem dX12_due_3 : decode cX12_due 3 = .ok (.getfield 7, 3) := by decide +kernel
theorem dX12_due_6 : decode cX12_due 6 = .ok (.bipush 9, 2) := by decide +kernel
theorem dX12_due_8 : decode cX12_due 8 = .ok (.iaload, 1) := by decide +kernel
theorem dX12_due_9 : decode cX12_due 9 = .ok (.iconst 1, 1) := by decide +kernel
theorem dX12_due_10 : decode cX12_due 10 = .ok (.isub, 1) := by decide +kernel
theorem dX12_due_11 : decode cX12_due 11 = .ok (.invokestatic 58, 3) := by decide +kernel
theorem dX12_due_14 : decode cX12_due 14 = .ok (.ifCond .eq 16, 3) := by decide +kernel
theorem dX12_due_17 : decode cX12_due 17 = .ok (.aload_n 0, 1) := by decide +kernel
theorem dX12_due_18 : decode cX12_due 18 = .ok (.getfield 7, 3) := by decide +kernel
theorem dX12_due_21 : decode cX12_due 21 = .ok (.sipush 257, 3) := by decide +kernel
theorem dX12_due_24 : decode cX12_due 24 = .ok (.iload_n 1, 1) := by decide +kernel
theorem dX12_due_25 : decode cX12_due 25 = .ok (.iadd, 1) := by decide +kernel
theorem dX12_due_26 : decode cX12_due 26 = .ok (.iaload, 1) := by decide +kernel
theorem dX12_due_27 : decode cX12_due 27 = .ok (.goto 5, 3) := by decide +kernel
theorem dX12_due_30 : decode cX12_due 30 = .ok (.bipush (-11), 2) := by decide +kernel
theorem dX12_due_32 : decode cX12_due 32 = .ok (.ireturn, 1) := by decide +kernel
theorem dX12_grey_0 : decode cX12_grey 0 = .ok (.iload_n 1, 1) := by decide +kernel
theorem dX12_grey_1 : decode cX12_grey 1 = .ok (.iconst 0, 1) := by decide +kernel
theorem dX12_grey_2 : decode cX12_grey 2 = .ok (.aload_n 0, 1) := by decide +kernel
theorem dX12_grey_3 : decode cX12_grey 3 = .ok (.getfield 7, 3) := by decide +kernel
theorem dX12_grey_6 : decode cX12_grey 6 = .ok (.bipush 8, 2) := by decide +kernel
theorem dX12_grey_8 : decode cX12_grey 8 = .ok (.iaload, 1) := by decide +kernel
theorem dX12_grey_9 : decode cX12_grey 9 = .ok (.iconst 1, 1) := by decide +kernel
theorem dX12_grey_10 : decode cX12_grey 10 = .ok (.isub, 1) := by decide +kernel
theorem dX12_grey_11 : decode cX12_grey 11 = .ok (.invokestatic 58, 3) := by decide +kernel
theorem dX12_grey_14 : decode cX12_grey 14 = .ok (.ifCond .eq 16, 3) := by decide +kernel
theorem dX12_grey_17 : decode cX12_grey 17 = .ok (.aload_n 0, 1) := by decide +kernel
theorem dX12_grey_18 : decode cX12_grey 18 = .ok (.getfield 7, 3) := by decide +kernel
theorem dX12_grey_21 : decode cX12_grey 21 = .ok (.sipush 233, 3) := by decide +kernel
theorem dX12_grey_24 : decode cX12_grey 24 = .ok (.iload_n 1, 1) := by decide +kernel
theorem dX12_grey_25 : decode cX12_grey 25 = .ok (.iadd, 1) := by decide +kernel
theorem dX12_grey_26 : decode cX12_grey 26 = .ok (.iaload, 1) := by decide +kernel
theorem dX12_grey_27 : decode cX12_grey 27 = .ok (.goto 5, 3) := by decide +kernel
theorem dX12_grey_30 : decode cX12_grey 30 = .ok (.bipush (-11), 2) := by decide +kernel
theorem dX12_grey_32 : decode cX12_grey 32 = .ok (.ireturn, 1) := by decide +kernel
theorem dX12_freed_0 : decode cX12_freed 0 = .ok (.iload_n 1, 1) := by decide +kernel
theorem dX12_freed_1 : decode cX12_freed 1 = .ok (.iconst 0, 1) := by decide +kernel
theorem dX12_freed_2 : decode cX12_freed 2 = .ok (.aload_n 0, 1) := by decide +kernel
theorem dX12_freed_3 : decode cX12_freed 3 = .ok (.getfield 7, 3) := by decide +kernel
theorem dX12_freed_6 : decode cX12_freed 6 = .ok (.bipush 10, 2) := by decide +kernel
theorem dX12_freed_8 : decode cX12_freed 8 = .ok (.iaload, 1) := by decide +kernel
theorem dX12_freed_9 : decode cX12_freed 9 = .ok (.iconst 1, 1) := by decide +kernel
theorem dX12_freed_10 : decode cX12_freed 10 = .ok (.isub, 1) := by decide +kernel
theorem dX12_freed_11 : decode cX12_freed 11 = .ok (.invokestatic 58, 3) := by decide +kernel
theorem dX12_freed_14 : decode cX12_freed 14 = .ok (.ifCond .eq 16, 3) := by decide +kernel
theorem dX12_freed_17 : decode cX12_freed 17 = .ok (.aload_n 0, 1) := by decide +kernel
theorem dX12_freed_18 : decode cX12_freed 18 = .ok (.getfield 7, 3) := by decide +kernel
theorem dX12_freed_21 : decode cX12_freed 21 = .ok (.sipush 281, 3) := by decide +kernel
theorem dX12_freed_24 : decode cX12_freed 24 = .ok (.iload_n 1, 1) := by decide +kernel
theorem dX12_freed_25 : decode cX12_freed 25 = .ok (.iadd, 1) := by decide +kernel
theorem dX12_freed_26 : decode cX12_freed 26 = .ok (.iaload, 1) := by decide +kernel
theorem dX12_freed_27 : decode cX12_freed 27 = .ok (.goto 5, 3) := by decide +kernel
theorem dX12_freed_30 : decode cX12_freed 30 = .ok (.bipush (-11), 2) := by decide +kernel
theorem dX12_freed_32 : decode cX12_freed 32 = .ok (.ireturn, 1) := by decide +kernel
theorem dX12_nears_0 : decode cX12_nears 0 = .ok (.iload_n 1, 1) := by decide +kernel
theorem dX12_nears_1 : decode cX12_nears 1 = .ok (.bipush (-15), 2) := by decide +kernel
theorem dX12_nears_3 : decode cX12_nears 3 = .ok (.if_icmp .eq 20, 3) := by decide +kernel
theorem dX12_nears_6 : decode cX12_nears 6 = .ok (.iload_n 2, 1) := by decide +kernel
theorem dX12_nears_7 : decode cX12_nears 7 = .ok (.aload_n 0, 1) := by decide +kernel
theorem dX12_nears_8 : decode cX12_nears 8 = .ok (.getfield 31, 3) := by decide +kernel
theorem dX12_nears_11 : decode cX12_nears 11 = .ok (.iload_n 1, 1) := by decide +kernel
theorem dX12_nears_12 : decode cX12_nears 12 = .ok (.iaload, 1) := by decide +kernel
theorem dX12_nears_13 : decode cX12_nears 13 = .ok (.if_icmp .ge 10, 3) := by decide +kernel
theorem dX12_nears_16 : decode cX12_nears 16 = .ok (.aload_n 0, 1) := by decide +kernel
theorem dX12_nears_17 : decode cX12_nears 17 = .ok (.getfield 31, 3) := by decide +kernel
theorem dX12_nears_20 : decode cX12_nears 20 = .ok (.iload_n 1, 1) := by decide +kernel
theorem dX12_nears_21 : decode cX12_nears 21 = .ok (.iload_n 2, 1) := by decide +kernel
theorem dX12_nears_22 : decode cX12_nears 22 = .ok (.iastore, 1) := by decide +kernel
theorem dX12_nears_23 : decode cX12_nears 23 = .ok (.return_, 1) := by decide +kernel
theorem dX12_measures_0 : decode cX12_measures 0 = .ok (.iconst 0, 1) := by decide +kernel
theorem dX12_measures_1 : decode cX12_measures 1 = .ok (.istore_n 3, 1) := by decide +kernel
theorem dX12_measures_2 : decode cX12_measures 2 = .ok (.iload_n 3, 1) := by decide +kernel
theorem dX12_measures_3 : decode cX12_measures 3 = .ok (.bipush 24, 2) := by decide +kernel
theorem dX12_measures_5 : decode cX12_measures 5 = .ok (.if_icmp .ge 17, 3) := by decide +kernel
theorem dX12_measures_8 : decode cX12_measures 8 = .ok (.aload_n 0, 1) := by decide +kernel
theorem dX12_measures_9 : decode cX12_measures 9 = .ok (.getfield 31, 3) := by decide +kernel
theorem dX12_measures_12 : decode cX12_measures 12 = .ok (.iload_n 3, 1) := by decide +kernel
theorem dX12_measures_13 : decode cX12_measures 13 = .ok (.bipush 99, 2) := by decide +kernel
theorem dX12_measures_15 : decode cX12_measures 15 = .ok (.iastore, 1) := by decide +kernel
theorem dX12_measures_16 : decode cX12_measures 16 = .ok (.iinc 3 1, 3) := by decide +kernel
theorem dX12_measures_19 : decode cX12_measures 19 = .ok (.goto (-17), 3) := by decide +kernel
theorem dX12_measures_22 : decode cX12_measures 22 = .ok (.iconst 0, 1) := by decide +kernel
theorem dX12_measures_23 : decode cX12_measures 23 = .ok (.istore_n 3, 1) := by decide +kernel
theorem dX12_measures_24 : decode cX12_measures 24 = .ok (.iload_n 3, 1) := by decide +kernel
theorem dX12_measures_25 : decode cX12_measures 25 = .ok (.bipush 6, 2) := by decide +kernel
theorem dX12_measures_27 : decode cX12_measures 27 = .ok (.if_icmp .ge 28, 3) := by decide +kernel
theorem dX12_measures_30 : decode cX12_measures 30 = .ok (.iload_n 3, 1) := by decide +kernel
theorem dX12_measures_31 : decode cX12_measures 31 = .ok (.iload_n 1, 1) := by decide +kernel
theorem dX12_measures_32 : decode cX12_measures 32 = .ok (.if_icmp .eq 17, 3) := by decide +kernel
theorem dX12_measures_35 : decode cX12_measures 35 = .ok (.aload_n 0, 1) := by decide +kernel
theorem dX12_measures_36 : decode cX12_measures 36 = .ok (.aload_n 0, 1) := by decide +kernel
theorem dX12_measures_37 : decode cX12_measures 37 = .ok (.getfield 7, 3) := by decide +kernel
theorem dX12_measures_40 : decode cX12_measures 40 = .ok (.bipush 11, 2) := by decide +kernel
theorem dX12_measures_42 : decode cX12_measures 42 = .ok (.iload_n 3, 1) := by decide +kernel
theorem dX12_measures_43 : decode cX12_measures 43 = .ok (.iadd, 1) := by decide +kernel
theorem dX12_measures_44 : decode cX12_measures 44 = .ok (.iaload, 1) := by decide +kernel
theorem dX12_measures_45 : decode cX12_measures 45 = .ok (.iconst 0, 1) := by decide +kernel
theorem dX12_measures_46 : decode cX12_measures 46 = .ok (.invokevirtual 152, 3) := by decide +kernel
theorem dX12_measures_49 : decode cX12_measures 49 = .ok (.iinc 3 1, 3) := by decide +kernel
theorem dX12_measures_52 : decode cX12_measures 52 = .ok (.goto (-28), 3) := by decide +kernel
theorem dX12_measures_55 : decode cX12_measures 55 = .ok (.iconst 0, 1) := by decide +kernel
theorem dX12_measures_56 : decode cX12_measures 56 = .ok (.istore_n 3, 1) := by decide +kernel
theorem dX12_measures_57 : decode cX12_measures 57 = .ok (.iload_n 3, 1) := by decide +kernel
theorem dX12_measures_58 : decode cX12_measures 58 = .ok (.aload_n 0, 1) := by decide +kernel
theorem dX12_measures_59 : decode cX12_measures 59 = .ok (.getfield 7, 3) := by decide +kernel
theorem dX12_measures_62 : decode cX12_measures 62 = .ok (.bipush 9, 2) := by decide +kernel
theorem dX12_measures_64 : decode cX12_measures 64 = .ok (.iaload, 1) := by decide +kernel
theorem dX12_measures_65 : decode cX12_measures 65 = .ok (.if_icmp .ge 24, 3) := by decide +kernel
theorem dX12_measures_68 : decode cX12_measures 68 = .ok (.aload_n 0, 1) := by decide +kernel
theorem dX12_measures_69 : decode cX12_measures 69 = .ok (.aload_n 0, 1) := by decide +kernel
theorem dX12_measures_70 : decode cX12_measures 70 = .ok (.getfield 7, 3) := by decide +kernel
theorem dX12_measures_73 : decode cX12_measures 73 = .ok (.sipush 257, 3) := by decide +kernel
theorem dX12_measures_76 : decode cX12_measures 76 = .ok (.iload_n 3, 1) := by decide +kernel
theorem dX12_measures_77 : decode cX12_measures 77 = .ok (.iadd, 1) := by decide +kernel
theorem dX12_measures_78 : decode cX12_measures 78 = .ok (.iaload, 1) := by decide +kernel
theorem dX12_measures_79 : decode cX12_measures 79 = .ok (.iconst 0, 1) := by decide +kernel
theorem dX12_measures_80 : decode cX12_measures 80 = .ok (.invokevirtual 152, 3) := by decide +kernel
theorem dX12_measures_83 : decode cX12_measures 83 = .ok (.iinc 3 1, 3) := by decide +kernel
theorem dX12_measures_86 : decode cX12_measures 86 = .ok (.goto (-29), 3) := by decide +kernel
theorem dX12_measures_89 : decode cX12_measures 89 = .ok (.iconst 0, 1) := by decide +kernel
theorem dX12_measures_90 : decode cX12_measures 90 = .ok (.istore_n 3, 1) := by decide +kernel
theorem dX12_measures_91 : decode cX12_measures 91 = .ok (.iload_n 3, 1) := by decide +kernel
theorem dX12_measures_92 : decode cX12_measures 92 = .ok (.bipush 24, 2) := by decide +kernel
theorem dX12_measures_94 : decode cX12_measures 94 = .ok (.if_icmp .ge 32, 3) := by decide +kernel
theorem dX12_measures_97 : decode cX12_measures 97 = .ok (.iload_n 2, 1) := by decide +kernel
theorem dX12_measures_98 : decode cX12_measures 98 = .ok (.ifCond .eq 22, 3) := by decide +kernel
theorem dX12_measures_101 : decode cX12_measures 101 = .ok (.aload_n 0, 1) := by decide +kernel
theorem dX12_measures_102 : decode cX12_measures 102 = .ok (.getfield 7, 3) := by decide +kernel
theorem dX12_measures_105 : decode cX12_measures 105 = .ok (.bipush 65, 2) := by decide +kernel
theorem dX12_measures_107 : decode cX12_measures 107 = .ok (.iload_n 3, 1) := by decide +kernel
theorem dX12_measures_108 : decode cX12_measures 108 = .ok (.iadd, 1) := by decide +kernel
theorem dX12_measures_109 : decode cX12_measures 109 = .ok (.iaload, 1) := by decide +kernel
theorem dX12_measures_110 : decode cX12_measures 110 = .ok (.iconst 1, 1) := by decide +kernel
theorem dX12_measures_111 : decode cX12_measures 111 = .ok (.if_icmp .ne 9, 3) := by decide +kernel
theorem dX12_measures_114 : decode cX12_measures 114 = .ok (.aload_n 0, 1) := by decide +kernel
theorem dX12_measures_115 : decode cX12_measures 115 = .ok (.iload_n 3, 1) := by decide +kernel
theorem dX12_measures_116 : decode cX12_measures 116 = .ok (.iconst 0, 1) := by decide +kernel
theorem dX12_measures_117 : decode cX12_measures 117 = .ok (.invokevirtual 152, 3) := by decide +kernel
theorem dX12_measures_120 : decode cX12_measures 120 = .ok (.iinc 3 1, 3) := by decide +kernel
theorem dX12_measures_123 : decode cX12_measures 123 = .ok (.goto (-32), 3) := by decide +kernel
theorem dX12_measures_126 : decode cX12_measures 126 = .ok (.iconst 0, 1) := by decide +kernel
theorem dX12_measures_127 : decode cX12_measures 127 = .ok (.istore_n 3, 1) := by decide +kernel
theorem dX12_measures_128 : decode cX12_measures 128 = .ok (.iload_n 3, 1) := by decide +kernel
theorem dX12_measures_129 : decode cX12_measures 129 = .ok (.bipush 24, 2) := by decide +kernel
theorem dX12_measures_131 : decode cX12_measures 131 = .ok (.if_icmp .ge 77, 3) := by decide +kernel
theorem dX12_measures_134 : decode cX12_measures 134 = .ok (.iconst 0, 1) := by decide +kernel
theorem dX12_measures_135 : decode cX12_measures 135 = .ok (.istore 4, 2) := by decide +kernel
theorem dX12_measures_137 : decode cX12_measures 137 = .ok (.iload 4, 2) := by decide +kernel
theorem dX12_measures_139 : decode cX12_measures 139 = .ok (.bipush 24, 2) := by decide +kernel
theorem dX12_measures_141 : decode cX12_measures 141 = .ok (.if_icmp .ge 61, 3) := by decide +kernel
theorem dX12_measures_144 : decode cX12_measures 144 = .ok (.iconst 0, 1) := by decide +kernel
theorem dX12_measures_145 : decode cX12_measures 145 = .ok (.istore 5, 2) := by decide +kernel
theorem dX12_measures_147 : decode cX12_measures 147 = .ok (.iload 5, 2) := by decide +kernel
theorem dX12_measures_149 : decode cX12_measures 149 = .ok (.iconst 4, 1) := by decide +kernel
theorem dX12_measures_150 : decode cX12_measures 150 = .ok (.if_icmp .ge 46, 3) := by decide +kernel
theorem dX12_measures_153 : decode cX12_measures 153 = .ok (.aload_n 0, 1) := by decide +kernel
theorem dX12_measures_154 : decode cX12_measures 154 = .ok (.getfield 31, 3) := by decide +kernel
theorem dX12_measures_157 : decode cX12_measures 157 = .ok (.iload 4, 2) := by decide +kernel
theorem dX12_measures_159 : decode cX12_measures 159 = .ok (.iaload, 1) := by decide +kernel
theorem dX12_measures_160 : decode cX12_measures 160 = .ok (.bipush 99, 2) := by decide +kernel
theorem dX12_measures_162 : decode cX12_measures 162 = .ok (.if_icmp .ge 28, 3) := by decide +kernel
theorem dX12_measures_165 : decode cX12_measures 165 = .ok (.aload_n 0, 1) := by decide +kernel
theorem dX12_measures_166 : decode cX12_measures 166 = .ok (.aload_n 0, 1) := by decide +kernel
theorem dX12_measures_167 : decode cX12_measures 167 = .ok (.getfield 7, 3) := by decide +kernel
theorem dX12_measures_170 : decode cX12_measures 170 = .ok (.iload 4, 2) := by decide +kernel
theorem dX12_measures_172 : decode cX12_measures 172 = .ok (.iload 5, 2) := by decide +kernel
theorem dX12_measures_174 : decode cX12_measures 174 = .ok (.invokestatic 62, 3) := by decide +kernel
theorem dX12_measures_177 : decode cX12_measures 177 = .ok (.iaload, 1) := by decide +kernel
theorem dX12_measures_178 : decode cX12_measures 178 = .ok (.aload_n 0, 1) := by decide +kernel
theorem dX12_measures_179 : decode cX12_measures 179 = .ok (.getfield 31, 3) := by decide +kernel
theorem dX12_measures_182 : decode cX12_measures 182 = .ok (.iload 4, 2) := by decide +kernel
theorem dX12_measures_184 : decode cX12_measures 184 = .ok (.iaload, 1) := by decide +kernel
theorem dX12_measures_185 : decode cX12_measures 185 = .ok (.iconst 1, 1) := by decide +kernel
theorem dX12_measures_186 : decode cX12_measures 186 = .ok (.iadd, 1) := by decide +kernel
theorem dX12_measures_187 : decode cX12_measures 187 = .ok (.invokevirtual 152, 3) := by decide +kernel
theorem dX12_measures_190 : decode cX12_measures 190 = .ok (.iinc 5 1, 3) := by decide +kernel
theorem dX12_measures_193 : decode cX12_measures 193 = .ok (.goto (-46), 3) := by decide +kernel
theorem dX12_measures_196 : decode cX12_measures 196 = .ok (.iinc 4 1, 3) := by decide +kernel
theorem dX12_measures_199 : decode cX12_measures 199 = .ok (.goto (-62), 3) := by decide +kernel
theorem dX12_measures_202 : decode cX12_measures 202 = .ok (.iinc 3 1, 3) := by decide +kernel
theorem dX12_measures_205 : decode cX12_measures 205 = .ok (.goto (-77), 3) := by decide +kernel
theorem dX12_measures_208 : decode cX12_measures 208 = .ok (.return_, 1) := by decide +kernel
theorem dX12_reached_0 : decode cX12_reached 0 = .ok (.iconst 0, 1) := by decide +kernel
theorem dX12_reached_1 : decode cX12_reached 1 = .ok (.istore_n 1, 1) := by decide +kernel
theorem dX12_reached_2 : decode cX12_reached 2 = .ok (.iconst 0, 1) := by decide +kernel
theorem dX12_reached_3 : decode cX12_reached 3 = .ok (.istore_n 2, 1) := by decide +kernel
theorem dX12_reached_4 : decode cX12_reached 4 = .ok (.iload_n 2, 1) := by decide +kernel
theorem dX12_reached_5 : decode cX12_reached 5 = .ok (.bipush 24, 2) := by decide +kernel
theorem dX12_reached_7 : decode cX12_reached 7 = .ok (.if_icmp .ge 30, 3) := by decide +kernel
theorem dX12_reached_10 : decode cX12_reached 10 = .ok (.iload_n 1, 1) := by decide +kernel
theorem dX12_reached_11 : decode cX12_reached 11 = .ok (.aload_n 0, 1) := by decide +kernel
theorem dX12_reached_12 : decode cX12_reached 12 = .ok (.getfield 31, 3) := by decide +kernel
theorem dX12_reached_15 : decode cX12_reached 15 = .ok (.iload_n 2, 1) := by decide +kernel
theorem dX12_reached_16 : decode cX12_reached 16 = .ok (.iaload, 1) := by decide +kernel
theorem dX12_reached_17 : decode cX12_reached 17 = .ok (.bipush 99, 2) := by decide +kernel
theorem dX12_reached_19 : decode cX12_reached 19 = .ok (.if_icmp .ge 9, 3) := by decide +kernel
theorem dX12_reached_22 : decode cX12_reached 22 = .ok (.iconst 1, 1) := by decide +kernel
theorem dX12_reached_23 : decode cX12_reached 23 = .ok (.iload_n 2, 1) := by decide +kernel
theorem dX12_reached_24 : decode cX12_reached 24 = .ok (.ishl, 1) := by decide +kernel
theorem dX12_reached_25 : decode cX12_reached 25 = .ok (.goto 4, 3) := by decide +kernel
theorem dX12_reached_28 : decode cX12_reached 28 = .ok (.iconst 0, 1) := by decide +kernel
theorem dX12_reached_29 : decode cX12_reached 29 = .ok (.ior, 1) := by decide +kernel
theorem dX12_reached_30 : decode cX12_reached 30 = .ok (.istore_n 1, 1) := by decide +kernel
theorem dX12_reached_31 : decode cX12_reached 31 = .ok (.iinc 2 1, 3) := by decide +kernel
theorem dX12_reached_34 : decode cX12_reached 34 = .ok (.goto (-30), 3) := by decide +kernel
theorem dX12_reached_37 : decode cX12_reached 37 = .ok (.iload_n 1, 1) := by decide +kernel
theorem dX12_reached_38 : decode cX12_reached 38 = .ok (.ireturn, 1) := by decide +kernel
theorem dX12_live_0 : decode cX12_live 0 = .ok (.aload_n 0, 1) := by decide +kernel
theorem dX12_live_1 : decode cX12_live 1 = .ok (.bipush (-11), 2) := by decide +kernel
theorem dX12_live_3 : decode cX12_live 3 = .ok (.iconst 0, 1) := by decide +kernel
theorem dX12_live_4 : decode cX12_live 4 = .ok (.invokevirtual 156, 3) := by decide +kernel
theorem dX12_live_7 : decode cX12_live 7 = .ok (.aload_n 0, 1) := by decide +kernel
theorem dX12_live_8 : decode cX12_live 8 = .ok (.invokevirtual 160, 3) := by decide +kernel
theorem dX12_live_11 : decode cX12_live 11 = .ok (.ireturn, 1) := by decide +kernel
theorem dX12_liveAgain_0 : decode cX12_liveAgain 0 = .ok (.aload_n 0, 1) := by decide +kernel
theorem dX12_liveAgain_1 : decode cX12_liveAgain 1 = .ok (.invokevirtual 163, 3) := by decide +kernel
theorem dX12_liveAgain_4 : decode cX12_liveAgain 4 = .ok (.ireturn, 1) := by decide +kernel
def f_X12_urn (μ : mu_T) (a1 : Int) : Option (Int × mu_T) :=
  bd_ (f_X12_remembers μ) (fun μ1 => bp_ (f_X12_makes μ1 a1) (fun v7 μ7 => bp_ (f_X12_ends μ7 v7) (fun v10 μ10 => some (v10, μ10))))
set_option maxHeartbeats 4000000 in
set_option maxRecDepth 100000 in
theorem c_X12_urn {G : gp_} {ad : Nat → Nat} (μ : mu_T) (a1 : Int) (a : Int) (μr : mu_T) (h : f_X12_urn μ a1 = some (a, μr)) : mi_ yX12_urn cX12_urn 2 (some .int) ({ frames := 2, cells := 0, slots := 0, locals := 44 } : Room) G 9 ad (ceM G ad) [.ref (ad 0), .int (iI a1)] μ a μr := by
  refine mi_in (own := "UrnHeapModel") (lv := [(0, .ref (ad 0)), (1, .int (iI a1))]) (by decide) rfl rfl (Nat.le_of_ble_eq_true rfl) (fun X C E => ?_)
  unfold f_X12_urn at h
  refine xx_aload_n C 1 rfl 0 dX12_urn_0 rfl rfl ?_
  refine xx_cVv (As := []) (st := []) (o := 0) C 4 rfl (by decide) (ceM_0 _ _ _) rfl rfl ca_X12_remembers cv_X12_remembers w_1236 rfl ⟨Nat.le_of_ble_eq_true rfl, Nat.le_of_ble_eq_true rfl⟩ ⟨Nat.le_of_ble_eq_true rfl, Nat.le_of_ble_eq_true rfl⟩ (Nat.le_of_ble_eq_true rfl) dX12_urn_1 (fun μ1 e9 => c_X12_remembers _ μ1 e9) h (fun μ1 h => ?_) rfl
  refine xx_aload_n C 5 rfl 0 dX12_urn_4 rfl rfl ?_
  refine xx_aload_n C 6 rfl 0 dX12_urn_5 rfl rfl ?_
  refine xx_iload_n C 7 rfl 1 dX12_urn_6 rfl rfl ?_
  refine xx_cVi (As := [.int (iI a1)]) (st := [.ref (ad 0)]) (o := 0) C 10 rfl (by decide) (ceM_0 _ _ _) rfl rfl ca_X12_makes cv_X12_makes w_1240 rfl ⟨Nat.le_of_ble_eq_true rfl, Nat.le_of_ble_eq_true rfl⟩ ⟨Nat.le_of_ble_eq_true rfl, Nat.le_of_ble_eq_true rfl⟩ (Nat.le_of_ble_eq_true rfl) dX12_urn_7 (fun v7 μ7 e9 => c_X12_makes _ _ v7 μ7 e9) h (fun v7 μ7 h => ?_) rfl
  refine xx_cVi (As := [.int (iI v7)]) (st := []) (o := 0) C 13 rfl (by decide) (ceM_0 _ _ _) rfl rfl ca_X12_ends cv_X12_ends w_1252 rfl ⟨Nat.le_of_ble_eq_true rfl, Nat.le_of_ble_eq_true rfl⟩ ⟨Nat.le_of_ble_eq_true rfl, Nat.le_of_ble_eq_true rfl⟩ (Nat.le_of_ble_eq_true rfl) dX12_urn_10 (fun v10 μ10 e9 => c_X12_ends _ _ v10 μ10 e9) h (fun v10 μ10 h => ?_) rfl
  exact xx_iret C E rfl ⟨Nat.le_of_ble_eq_true rfl, Nat.le_of_ble_eq_true rfl⟩ dX12_urn_13 h

def f_X12_tie (μ : mu_T) (a1 : Int) (a2 : Int) (a3 : Int) : Option (Int × mu_T) :=
  bd_ (f_X12_remembers μ) (fun μ1 => bp_ (f_X12_ties μ1 a1 a2 a3) (fun v9 μ9 => bp_ (f_X12_ends μ9 v9) (fun v12 μ12 => some (v12, μ12))))
set_option maxHeartbeats 4000000 in
set_option maxRecDepth 100000 in
theorem c_X12_tie {G : gp_} {ad : Nat → Nat} (μ : mu_T) (a1 : Int) (a2 : Int) (a3 : Int) (a : Int) (μr : mu_T) (h : f_X12_tie μ a1 a2 a3 = some (a, μr)) : mi_ yX12_tie cX12_tie 4 (some .int) ({ frames := 3, cells := 0, slots := 0, locals := 67 } : Room) G 9 ad (ceM G ad) [.ref (ad 0), .int (iI a1), .int (iI a2), .int (iI a3)] μ a μr := by
  refine mi_in (own := "UrnHeapModel") (lv := [(0, .ref (ad 0)), (1, .int (iI a1)), (2, .int (iI a2)), (3, .int (iI a3))]) (by decide) rfl rfl (Nat.le_of_ble_eq_true rfl) (fun X C E => ?_)
  unfold f_X12_tie at h
  refine xx_aload_n C 1 rfl 0 dX12_tie_0 rfl rfl ?_
  refine xx_cVv (As := []) (st := []) (o := 0) C 4 rfl (by decide) (ceM_0 _ _ _) rfl rfl ca_X12_remembers cv_X12_remembers w_1236 rfl ⟨Nat.le_of_ble_eq_true rfl, Nat.le_of_ble_eq_true rfl⟩ ⟨Nat.le_of_ble_eq_true rfl, Nat.le_of_ble_eq_true rfl⟩ (Nat.le_of_ble_eq_true rfl) dX12_tie_1 (fun μ1 e9 => c_X12_remembers _ μ1 e9) h (fun μ1 h => ?_) rfl
  refine xx_aload_n C 5 rfl 0 dX12_tie_4 rfl rfl ?_
  refine xx_aload_n C 6 rfl 0 dX12_tie_5 rfl rfl ?_
  refine xx_iload_n C 7 rfl 1 dX12_tie_6 rfl rfl ?_
  refine xx_iload_n C 8 rfl 2 dX12_tie_7 rfl rfl ?_
  refine xx_iload_n C 9 rfl 3 dX12_tie_8 rfl rfl ?_
  refine xx_cVi (As := [.int (iI a1), .int (iI a2), .int (iI a3)]) (st := [.ref (ad 0)]) (o := 0) C 12 rfl (by decide) (ceM_0 _ _ _) rfl rfl ca_X12_ties cv_X12_ties w_1264 rfl ⟨Nat.le_of_ble_eq_true rfl, Nat.le_of_ble_eq_true rfl⟩ ⟨Nat.le_of_ble_eq_true rfl, Nat.le_of_ble_eq_true rfl⟩ (Nat.le_of_ble_eq_true rfl) dX12_tie_9 (fun v9 μ9 e9 => c_X12_ties _ _ _ _ v9 μ9 e9) h (fun v9 μ9 h => ?_) rfl
  refine xx_cVi (As := [.int (iI v9)]) (st := []) (o := 0) C 15 rfl (by decide) (ceM_0 _ _ _) rfl rfl ca_X12_ends cv_X12_ends w_1252 rfl ⟨Nat.le_of_ble_eq_true rfl, Nat.le_of_ble_eq_true rfl⟩ ⟨Nat.le_of_ble_eq_true rfl, Nat.le_of_ble_eq_true rfl⟩ (Nat.le_of_ble_eq_true rfl) dX12_tie_12 (fun v12 μ12 e9 => c_X12_ends _ _ v12 μ12 e9) h (fun v12 μ12 h => ?_) rfl
  exact xx_iret C E rfl ⟨Nat.le_of_ble_eq_true rfl, Nat.le_of_ble_eq_true rfl⟩ dX12_tie_15 h

def f_X12_untie (μ : mu_T) (a1 : Int) (a2 : Int) : Option (Int × mu_T) :=
  bd_ (f_X12_remembers μ) (fun μ1 => bp_ (f_X12_unties μ1 a1 a2) (fun v8 μ8 => bp_ (f_X12_ends μ8 v8) (fun v11 μ11 => some (v11, μ11))))
set_option maxHeartbeats 4000000 in
set_option maxRecDepth 100000 in
theorem c_X12_untie {G : gp_} {ad : Nat → Nat} (μ : mu_T) (a1 : Int) (a2 : Int) (a : Int) (μr : mu_T) (h : f_X12_untie μ a1 a2 = some (a, μr)) : mi_ yX12_untie cX12_untie 3 (some .int) ({ frames := 3, cells := 0, slots := 0, locals := 66 } : Room) G 9 ad (ceM G ad) [.ref (ad 0), .int (iI a1), .int (iI a2)] μ a μr := by
  refine mi_in (own := "UrnHeapModel") (lv := [(0, .ref (ad 0)), (1, .int (iI a1)), (2, .int (iI a2))]) (by decide) rfl rfl (Nat.le_of_ble_eq_true rfl) (fun X C E => ?_)
  unfold f_X12_untie at h
  refine xx_aload_n C 1 rfl 0 dX12_untie_0 rfl rfl ?_
  refine xx_cVv (As := []) (st := []) (o := 0) C 4 rfl (by decide) (ceM_0 _ _ _) rfl rfl ca_X12_remembers cv_X12_remembers w_1236 rfl ⟨Nat.le_of_ble_eq_true rfl, Nat.le_of_ble_eq_true rfl⟩ ⟨Nat.le_of_ble_eq_true rfl, Nat.le_of_ble_eq_true rfl⟩ (Nat.le_of_ble_eq_true rfl) dX12_untie_1 (fun μ1 e9 => c_X12_remembers _ μ1 e9) h (fun μ1 h => ?_) rfl
  refine xx_aload_n C 5 rfl 0 dX12_untie_4 rfl rfl ?_
  refine xx_aload_n C 6 rfl 0 dX12_untie_5 rfl rfl ?_
  refine xx_iload_n C 7 rfl 1 dX12_untie_6 rfl rfl ?_
  refine xx_iload_n C 8 rfl 2 dX12_untie_7 rfl rfl ?_
  refine xx_cVi (As := [.int (iI a1), .int (iI a2)]) (st := [.ref (ad 0)]) (o := 0) C 11 rfl (by decide) (ceM_0 _ _ _) rfl rfl ca_X12_unties cv_X12_unties w_1291 rfl ⟨Nat.le_of_ble_eq_true rfl, Nat.le_of_ble_eq_true rfl⟩ ⟨Nat.le_of_ble_eq_true rfl, Nat.le_of_ble_eq_true rfl⟩ (Nat.le_of_ble_eq_true rfl) dX12_untie_8 (fun v8 μ8 e9 => c_X12_unties _ _ _ v8 μ8 e9) h (fun v8 μ8 h => ?_) rfl
  refine xx_cVi (As := [.int (iI v8)]) (st := []) (o := 0) C 14 rfl (by decide) (ceM_0 _ _ _) rfl rfl ca_X12_ends cv_X12_ends w_1252 rfl ⟨Nat.le_of_ble_eq_true rfl, Nat.le_of_ble_eq_true rfl⟩ ⟨Nat.le_of_ble_eq_true rfl, Nat.le_of_ble_eq_true rfl⟩ (Nat.le_of_ble_eq_true rfl) dX12_untie_11 (fun v11 μ11 e9 => c_X12_ends _ _ v11 μ11 e9) h (fun v11 μ11 h => ?_) rfl
  exact xx_iret C E rfl ⟨Nat.le_of_ble_eq_true rfl, Nat.le_of_ble_eq_true rfl⟩ dX12_untie_14 h

def f_X12_weak (μ : mu_T) (a1 : Int) (a2 : Int) : Option (Int × mu_T) :=
  bd_ (f_X12_remembers μ) (fun μ1 => bp_ (f_X12_weakens μ1 a1 a2) (fun v8 μ8 => bp_ (f_X12_ends μ8 v8) (fun v11 μ11 => some (v11, μ11))))
set_option maxHeartbeats 4000000 in
set_option maxRecDepth 100000 in
theorem c_X12_weak {G : gp_} {ad : Nat → Nat} (μ : mu_T) (a1 : Int) (a2 : Int) (a : Int) (μr : mu_T) (h : f_X12_weak μ a1 a2 = some (a, μr)) : mi_ yX12_weak cX12_weak 3 (some .int) ({ frames := 3, cells := 0, slots := 0, locals := 66 } : Room) G 9 ad (ceM G ad) [.ref (ad 0), .int (iI a1), .int (iI a2)] μ a μr := by
  refine mi_in (own := "UrnHeapModel") (lv := [(0, .ref (ad 0)), (1, .int (iI a1)), (2, .int (iI a2))]) (by decide) rfl rfl (Nat.le_of_ble_eq_true rfl) (fun X C E => ?_)
  unfold f_X12_weak at h
  refine xx_aload_n C 1 rfl 0 dX12_weak_0 rfl rfl ?_
  refine xx_cVv (As := []) (st := []) (o := 0) C 4 rfl (by decide) (ceM_0 _ _ _) rfl rfl ca_X12_remembers cv_X12_remembers w_1236 rfl ⟨Nat.le_of_ble_eq_true rfl, Nat.le_of_ble_eq_true rfl⟩ ⟨Nat.le_of_ble_eq_true rfl, Nat.le_of_ble_eq_true rfl⟩ (Nat.le_of_ble_eq_true rfl) dX12_weak_1 (fun μ1 e9 => c_X12_remembers _ μ1 e9) h (fun μ1 h => ?_) rfl
  refine xx_aload_n C 5 rfl 0 dX12_weak_4 rfl rfl ?_
  refine xx_aload_n C 6 rfl 0 dX12_weak_5 rfl rfl ?_
  refine xx_iload_n C 7 rfl 1 dX12_weak_6 rfl rfl ?_
  refine xx_iload_n C 8 rfl 2 dX12_weak_7 rfl rfl ?_
  refine xx_cVi (As := [.int (iI a1), .int (iI a2)]) (st := [.ref (ad 0)]) (o := 0) C 11 rfl (by decide) (ceM_0 _ _ _) rfl rfl ca_X12_weakens cv_X12_weakens w_1299 rfl ⟨Nat.le_of_ble_eq_true rfl, Nat.le_of_ble_eq_true rfl⟩ ⟨Nat.le_of_ble_eq_true rfl, Nat.le_of_ble_eq_true rfl⟩ (Nat.le_of_ble_eq_true rfl) dX12_weak_8 (fun v8 μ8 e9 => c_X12_weakens _ _ _ v8 μ8 e9) h (fun v8 μ8 h => ?_) rfl
  refine xx_cVi (As := [.int (iI v8)]) (st := []) (o := 0) C 14 rfl (by decide) (ceM_0 _ _ _) rfl rfl ca_X12_ends cv_X12_ends w_1252 rfl ⟨Nat.le_of_ble_eq_true rfl, Nat.le_of_ble_eq_true rfl⟩ ⟨Nat.le_of_ble_eq_true rfl, Nat.le_of_ble_eq_true rfl⟩ (Nat.le_of_ble_eq_true rfl) dX12_weak_11 (fun v11 μ11 e9 => c_X12_ends _ _ v11 μ11 e9) h (fun v11 μ11 h => ?_) rfl
  exact xx_iret C E rfl ⟨Nat.le_of_ble_eq_true rfl, Nat.le_of_ble_eq_true rfl⟩ dX12_weak_14 h

def f_X12_unweak (μ : mu_T) (a1 : Int) : Option (Int × mu_T) :=
  bd_ (f_X12_remembers μ) (fun μ1 => bd_ (f_X12_isUrn μ1 a1) (fun v6 => eq_ v6 0
      (some ((-11), μ1))
      (rd_ μ1 1 293 (113 + a1) (fun v23 => wr_ μ1 1 293 (113 + a1) (-15) (fun μ35 => eq_ v23 (-15)
      (bp_ (f_X12_refused μ35 2 4) (fun v46 μ46 => bp_ (f_X12_ends μ46 v46) (fun v57 μ57 => some (v57, μ57))))
      (bp_ (f_X12_done μ35 v23) (fun v54 μ54 => bp_ (f_X12_ends μ54 v54) (fun v57 μ57 => some (v57, μ57)))))))))
set_option maxHeartbeats 4000000 in
set_option maxRecDepth 100000 in
theorem c_X12_unweak {G : gp_} {ad : Nat → Nat} (μ : mu_T) (a1 : Int) (a : Int) (μr : mu_T) (h : f_X12_unweak μ a1 = some (a, μr)) : mi_ yX12_unweak cX12_unweak 3 (some .int) ({ frames := 2, cells := 0, slots := 0, locals := 43 } : Room) G 9 ad (ceM G ad) [.ref (ad 0), .int (iI a1)] μ a μr := by
  refine mi_in (own := "UrnHeapModel") (lv := [(0, .ref (ad 0)), (1, .int (iI a1))]) (by decide) rfl rfl (Nat.le_of_ble_eq_true rfl) (fun X C E => ?_)
  unfold f_X12_unweak at h
  refine xx_aload_n C 1 rfl 0 dX12_unweak_0 rfl rfl ?_
  refine xx_cVv (As := []) (st := []) (o := 0) C 4 rfl (by decide) (ceM_0 _ _ _) rfl rfl ca_X12_remembers cv_X12_remembers w_1236 rfl ⟨Nat.le_of_ble_eq_true rfl, Nat.le_of_ble_eq_true rfl⟩ ⟨Nat.le_of_ble_eq_true rfl, Nat.le_of_ble_eq_true rfl⟩ (Nat.le_of_ble_eq_true rfl) dX12_unweak_1 (fun μ1 e9 => c_X12_remembers _ μ1 e9) h (fun μ1 h => ?_) rfl
  refine xx_aload_n C 5 rfl 0 dX12_unweak_4 rfl rfl ?_
  refine xx_iload_n C 6 rfl 1 dX12_unweak_5 rfl rfl ?_
  refine xx_cVip (As := [.int (iI a1)]) (st := []) (o := 0) C 9 rfl (by decide) (ceM_0 _ _ _) rfl rfl ca_X12_isUrn cv_X12_isUrn w_1268 rfl ⟨Nat.le_of_ble_eq_true rfl, Nat.le_of_ble_eq_true rfl⟩ ⟨Nat.le_of_ble_eq_true rfl, Nat.le_of_ble_eq_true rfl⟩ (Nat.le_of_ble_eq_true rfl) dX12_unweak_6 (fun v6 e9 => c_X12_isUrn _ _ v6 e9) h (fun v6 h => ?_) rfl
  refine xx_if_ne (tgt := 15) C 12 rfl dX12_unweak_9 (by decide) h (fun h => ?_) (fun h => ?_)
  · refine xx_aload_n C 16 rfl 0 dX12_unweak_15 rfl rfl ?_
    refine xx_getr (fi := 0) C 19 rfl (by decide) (ceM_0 _ _ _) rfl in_X12 (by decide) rfl rfl w_1171 dX12_unweak_16 ?_
    refine xx_bipush C 21 rfl dX12_unweak_19 (by decide) ?_
    refine xx_iload_n C 22 rfl 1 dX12_unweak_21 rfl rfl ?_
    refine xx_iadd C 23 rfl dX12_unweak_22 ?_
    refine xx_iaload C 24 rfl (by decide) (fun _ => rfl) (by decide) dX12_unweak_23 h (fun v23 h => ?_)
    refine xx_istore_n (lv1 := [(2, .int (iI v23)), (0, .ref (ad 0)), (1, .int (iI a1))]) C 25 rfl (by decide) dX12_unweak_24 rfl rfl ?_
    refine xx_aload_n C 26 rfl 1 dX12_unweak_25 rfl rfl ?_
    refine xx_getr (fi := 0) C 29 rfl (by decide) (ceM_0 _ _ _) rfl in_X12 (by decide) rfl rfl w_1171 dX12_unweak_26 ?_
    refine xx_bipush C 31 rfl dX12_unweak_29 (by decide) ?_
    refine xx_iload_n C 32 rfl 2 dX12_unweak_31 rfl rfl ?_
    refine xx_iadd C 33 rfl dX12_unweak_32 ?_
    refine xx_bipush C 35 rfl dX12_unweak_33 (by decide) ?_
    refine xx_iastore C 36 rfl (by decide) (fun _ => rfl) (by decide) dX12_unweak_35 h (fun μ35 h => ?_)
    refine xx_aload_n C 37 rfl 1 dX12_unweak_36 rfl rfl ?_
    refine xx_iload_n C 38 rfl 0 dX12_unweak_37 rfl rfl ?_
    refine xx_bipush C 40 rfl dX12_unweak_38 (by decide) ?_
    refine xx_icmp_ne (tgt := 52) C 43 rfl dX12_unweak_40 (by decide) h (fun h => ?_) (fun h => ?_)
    · refine xx_aload_n C 53 rfl 1 dX12_unweak_52 rfl rfl ?_
      refine xx_iload_n C 54 rfl 0 dX12_unweak_53 rfl rfl ?_
      refine xx_cVi (As := [.int (iI v23)]) (st := [.ref (ad 0)]) (o := 0) C 57 rfl (by decide) (ceM_0 _ _ _) rfl rfl ca_X12_done cv_X12_done w_1248 rfl ⟨Nat.le_of_ble_eq_true rfl, Nat.le_of_ble_eq_true rfl⟩ ⟨Nat.le_of_ble_eq_true rfl, Nat.le_of_ble_eq_true rfl⟩ (Nat.le_of_ble_eq_true rfl) dX12_unweak_54 (fun v54 μ54 e9 => c_X12_done _ _ v54 μ54 e9) h (fun v54 μ54 h => ?_) rfl
      refine xx_cVi (As := [.int (iI v54)]) (st := []) (o := 0) C 60 rfl (by decide) (ceM_0 _ _ _) rfl rfl ca_X12_ends cv_X12_ends w_1252 rfl ⟨Nat.le_of_ble_eq_true rfl, Nat.le_of_ble_eq_true rfl⟩ ⟨Nat.le_of_ble_eq_true rfl, Nat.le_of_ble_eq_true rfl⟩ (Nat.le_of_ble_eq_true rfl) dX12_unweak_57 (fun v57 μ57 e9 => c_X12_ends _ _ v57 μ57 e9) h (fun v57 μ57 h => ?_) rfl
      exact xx_iret C E rfl ⟨Nat.le_of_ble_eq_true rfl, Nat.le_of_ble_eq_true rfl⟩ dX12_unweak_60 h
    · refine xx_aload_n C 44 rfl 1 dX12_unweak_43 rfl rfl ?_
      refine xx_iconst C 45 rfl dX12_unweak_44 ?_
      refine xx_iconst C 46 rfl dX12_unweak_45 ?_
      refine xx_cVi (As := [.int (iI 2), .int (iI 4)]) (st := [.ref (ad 0)]) (o := 0) C 49 rfl (by decide) (ceM_0 _ _ _) rfl rfl ca_X12_refused cv_X12_refused w_1244 rfl ⟨Nat.le_of_ble_eq_true rfl, Nat.le_of_ble_eq_true rfl⟩ ⟨Nat.le_of_ble_eq_true rfl, Nat.le_of_ble_eq_true rfl⟩ (Nat.le_of_ble_eq_true rfl) dX12_unweak_46 (fun v46 μ46 e9 => c_X12_refused _ _ _ v46 μ46 e9) h (fun v46 μ46 h => ?_) rfl
      refine xx_goto C 57 dX12_unweak_49 (by decide) ?_
      refine xx_cVi (As := [.int (iI v46)]) (st := []) (o := 0) C 60 rfl (by decide) (ceM_0 _ _ _) rfl rfl ca_X12_ends cv_X12_ends w_1252 rfl ⟨Nat.le_of_ble_eq_true rfl, Nat.le_of_ble_eq_true rfl⟩ ⟨Nat.le_of_ble_eq_true rfl, Nat.le_of_ble_eq_true rfl⟩ (Nat.le_of_ble_eq_true rfl) dX12_unweak_57 (fun v57 μ57 e9 => c_X12_ends _ _ v57 μ57 e9) h (fun v57 μ57 h => ?_) rfl
      exact xx_iret C E rfl ⟨Nat.le_of_ble_eq_true rfl, Nat.le_of_ble_eq_true rfl⟩ dX12_unweak_60 h
  · refine xx_bipush C 14 rfl dX12_unweak_12 (by decide) ?_
    exact xx_iret C E rfl ⟨Nat.le_of_ble_eq_true rfl, Nat.le_of_ble_eq_true rfl⟩ dX12_unweak_14 h

def f_X12_name (μ : mu_T) (a1 : Int) (a2 : Int) : Option (Int × mu_T) :=
  bd_ (f_X12_remembers μ) (fun μ1 => bp_ (f_X12_names μ1 a1 a2) (fun v8 μ8 => bp_ (f_X12_ends μ8 v8) (fun v11 μ11 => some (v11, μ11))))
set_option maxHeartbeats 4000000 in
set_option maxRecDepth 100000 in
theorem c_X12_name {G : gp_} {ad : Nat → Nat} (μ : mu_T) (a1 : Int) (a2 : Int) (a : Int) (μr : mu_T) (h : f_X12_name μ a1 a2 = some (a, μr)) : mi_ yX12_name cX12_name 3 (some .int) ({ frames := 3, cells := 0, slots := 0, locals := 66 } : Room) G 9 ad (ceM G ad) [.ref (ad 0), .int (iI a1), .int (iI a2)] μ a μr := by
  refine mi_in (own := "UrnHeapModel") (lv := [(0, .ref (ad 0)), (1, .int (iI a1)), (2, .int (iI a2))]) (by decide) rfl rfl (Nat.le_of_ble_eq_true rfl) (fun X C E => ?_)
  unfold f_X12_name at h
  refine xx_aload_n C 1 rfl 0 dX12_name_0 rfl rfl ?_
  refine xx_cVv (As := []) (st := []) (o := 0) C 4 rfl (by decide) (ceM_0 _ _ _) rfl rfl ca_X12_remembers cv_X12_remembers w_1236 rfl ⟨Nat.le_of_ble_eq_true rfl, Nat.le_of_ble_eq_true rfl⟩ ⟨Nat.le_of_ble_eq_true rfl, Nat.le_of_ble_eq_true rfl⟩ (Nat.le_of_ble_eq_true rfl) dX12_name_1 (fun μ1 e9 => c_X12_remembers _ μ1 e9) h (fun μ1 h => ?_) rfl
  refine xx_aload_n C 5 rfl 0 dX12_name_4 rfl rfl ?_
  refine xx_aload_n C 6 rfl 0 dX12_name_5 rfl rfl ?_
  refine xx_iload_n C 7 rfl 1 dX12_name_6 rfl rfl ?_
  refine xx_iload_n C 8 rfl 2 dX12_name_7 rfl rfl ?_
  refine xx_cVi (As := [.int (iI a1), .int (iI a2)]) (st := [.ref (ad 0)]) (o := 0) C 11 rfl (by decide) (ceM_0 _ _ _) rfl rfl ca_X12_names cv_X12_names w_1311 rfl ⟨Nat.le_of_ble_eq_true rfl, Nat.le_of_ble_eq_true rfl⟩ ⟨Nat.le_of_ble_eq_true rfl, Nat.le_of_ble_eq_true rfl⟩ (Nat.le_of_ble_eq_true rfl) dX12_name_8 (fun v8 μ8 e9 => c_X12_names _ _ _ v8 μ8 e9) h (fun v8 μ8 h => ?_) rfl
  refine xx_cVi (As := [.int (iI v8)]) (st := []) (o := 0) C 14 rfl (by decide) (ceM_0 _ _ _) rfl rfl ca_X12_ends cv_X12_ends w_1252 rfl ⟨Nat.le_of_ble_eq_true rfl, Nat.le_of_ble_eq_true rfl⟩ ⟨Nat.le_of_ble_eq_true rfl, Nat.le_of_ble_eq_true rfl⟩ (Nat.le_of_ble_eq_true rfl) dX12_name_11 (fun v11 μ11 e9 => c_X12_ends _ _ v11 μ11 e9) h (fun v11 μ11 h => ?_) rfl
  exact xx_iret C E rfl ⟨Nat.le_of_ble_eq_true rfl, Nat.le_of_ble_eq_true rfl⟩ dX12_name_14 h

def f_X12_drop (μ : mu_T) (a1 : Int) : Option (Int × mu_T) :=
  bd_ (f_X12_remembers μ) (fun μ1 => bp_ (f_X12_drops μ1 a1) (fun v7 μ7 => bp_ (f_X12_ends μ7 v7) (fun v10 μ10 => some (v10, μ10))))
set_option maxHeartbeats 4000000 in
set_option maxRecDepth 100000 in
theorem c_X12_drop {G : gp_} {ad : Nat → Nat} (μ : mu_T) (a1 : Int) (a : Int) (μr : mu_T) (h : f_X12_drop μ a1 = some (a, μr)) : mi_ yX12_drop cX12_drop 2 (some .int) ({ frames := 2, cells := 0, slots := 0, locals := 44 } : Room) G 9 ad (ceM G ad) [.ref (ad 0), .int (iI a1)] μ a μr := by
  refine mi_in (own := "UrnHeapModel") (lv := [(0, .ref (ad 0)), (1, .int (iI a1))]) (by decide) rfl rfl (Nat.le_of_ble_eq_true rfl) (fun X C E => ?_)
  unfold f_X12_drop at h
  refine xx_aload_n C 1 rfl 0 dX12_drop_0 rfl rfl ?_
  refine xx_cVv (As := []) (st := []) (o := 0) C 4 rfl (by decide) (ceM_0 _ _ _) rfl rfl ca_X12_remembers cv_X12_remembers w_1236 rfl ⟨Nat.le_of_ble_eq_true rfl, Nat.le_of_ble_eq_true rfl⟩ ⟨Nat.le_of_ble_eq_true rfl, Nat.le_of_ble_eq_true rfl⟩ (Nat.le_of_ble_eq_true rfl) dX12_drop_1 (fun μ1 e9 => c_X12_remembers _ μ1 e9) h (fun μ1 h => ?_) rfl
  refine xx_aload_n C 5 rfl 0 dX12_drop_4 rfl rfl ?_
  refine xx_aload_n C 6 rfl 0 dX12_drop_5 rfl rfl ?_
  refine xx_iload_n C 7 rfl 1 dX12_drop_6 rfl rfl ?_
  refine xx_cVi (As := [.int (iI a1)]) (st := [.ref (ad 0)]) (o := 0) C 10 rfl (by decide) (ceM_0 _ _ _) rfl rfl ca_X12_drops cv_X12_drops w_1319 rfl ⟨Nat.le_of_ble_eq_true rfl, Nat.le_of_ble_eq_true rfl⟩ ⟨Nat.le_of_ble_eq_true rfl, Nat.le_of_ble_eq_true rfl⟩ (Nat.le_of_ble_eq_true rfl) dX12_drop_7 (fun v7 μ7 e9 => c_X12_drops _ _ v7 μ7 e9) h (fun v7 μ7 h => ?_) rfl
  refine xx_cVi (As := [.int (iI v7)]) (st := []) (o := 0) C 13 rfl (by decide) (ceM_0 _ _ _) rfl rfl ca_X12_ends cv_X12_ends w_1252 rfl ⟨Nat.le_of_ble_eq_true rfl, Nat.le_of_ble_eq_true rfl⟩ ⟨Nat.le_of_ble_eq_true rfl, Nat.le_of_ble_eq_true rfl⟩ (Nat.le_of_ble_eq_true rfl) dX12_drop_10 (fun v10 μ10 e9 => c_X12_ends _ _ v10 μ10 e9) h (fun v10 μ10 h => ?_) rfl
  exact xx_iret C E rfl ⟨Nat.le_of_ble_eq_true rfl, Nat.le_of_ble_eq_true rfl⟩ dX12_drop_13 h

def f_X12_holds_L4 (a1 : Int) (μ : mu_T) : Nat → Int → Int → Option Int
  | 0, _, _ => none
  | fu4 + 1, x2_4, x3_4 => lt_ x3_4 4
      (bd_ (f_X12_at μ a1 x3_4) (fun v16 => rd_ μ 1 293 v16 (fun v19 => jn_ (φ := Int → Option Int) (fun s0_30 => nm_ ((x2_4 + s0_30)) (fun n31 => nm_ (x3_4 + 1) (fun n32 => (f_X12_holds_L4 a1 μ fu4) n31 n32)))
      (fun J30 => eq_ v19 (-15)
      (J30 0)
      (J30 1)))))
      (some x2_4)
def f_X12_holds (μ : mu_T) (a1 : Int) : Option Int :=
  f_X12_holds_L4 a1 μ 20000 0 0
set_option maxHeartbeats 4000000 in
set_option maxRecDepth 100000 in
theorem c_X12_holds {G : gp_} {ad : Nat → Nat} (μ : mu_T) (a1 : Int) (a : Int) (h : f_X12_holds μ a1 = some a) : mi_ yX12_holds cX12_holds 4 (some .int) ({ frames := 1, cells := 0, slots := 0, locals := 21 } : Room) G 9 ad (ceM G ad) [.ref (ad 0), .int (iI a1)] μ a μ := by
  refine mi_in (own := "UrnHeapModel") (lv := [(0, .ref (ad 0)), (1, .int (iI a1))]) (by decide) rfl rfl (Nat.le_of_ble_eq_true rfl) (fun X C E => ?_)
  unfold f_X12_holds at h
  refine xx_iconst C 1 rfl dX12_holds_0 ?_
  refine xx_istore_n (lv1 := [(2, .int (iI 0)), (0, .ref (ad 0)), (1, .int (iI a1))]) C 2 rfl (by decide) dX12_holds_1 rfl rfl ?_
  refine xx_iconst C 3 rfl dX12_holds_2 ?_
  refine xx_istore_n (lv1 := [(3, .int (iI 0)), (2, .int (iI 0)), (0, .ref (ad 0)), (1, .int (iI a1))]) C 4 rfl (by decide) dX12_holds_3 rfl rfl ?_
  have L4 : ∀ (fu4 : Nat) (x2_4 : Int) (x3_4 : Int), f_X12_holds_L4 a1 μ fu4 x2_4 x3_4 = some a → wx_ G X 9 ad (ceM G ad) μ 0 0 4 [(0, .ref (ad 0)), (1, .int (iI a1)), (2, .int (iI x2_4)), (3, .int (iI x3_4))] [] := by
    intro fu4
    induction fu4 with
    | zero => intro x2_4 x3_4 h; exact nn_ h
    | succ fu4 K4 =>
      intro x2_4 x3_4 h
      rw [f_X12_holds_L4] at h
      generalize f_X12_holds_L4 a1 μ fu4 = R4 at K4 h
      refine xx_iload_n C 5 rfl 3 dX12_holds_4 rfl rfl ?_
      refine xx_iconst C 6 rfl dX12_holds_5 ?_
      refine xx_icmp_ge (tgt := 38) C 9 rfl dX12_holds_6 (by decide) h (fun h => ?_) (fun h => ?_)
      · refine xx_iload_n C 39 rfl 2 dX12_holds_38 rfl rfl ?_
        exact xx_iretp C E rfl ⟨Nat.le_of_ble_eq_true rfl, Nat.le_of_ble_eq_true rfl⟩ dX12_holds_39 h
      · refine xx_iload_n C 10 rfl 2 dX12_holds_9 rfl rfl ?_
        refine xx_aload_n C 11 rfl 0 dX12_holds_10 rfl rfl ?_
        refine xx_getr (fi := 0) C 14 rfl (by decide) (ceM_0 _ _ _) rfl in_X12 (by decide) rfl rfl w_1171 dX12_holds_11 ?_
        refine xx_iload_n C 15 rfl 1 dX12_holds_14 rfl rfl ?_
        refine xx_iload_n C 16 rfl 3 dX12_holds_15 rfl rfl ?_
        refine xx_cSip (As := [.int (iI a1), .int (iI x3_4)]) (st := [.ref (ad 1), .int (iI x2_4)]) C 19 rfl  ca_X12_at cs_X12_at w_1168 rfl ⟨Nat.le_of_ble_eq_true rfl, Nat.le_of_ble_eq_true rfl⟩ ⟨Nat.le_of_ble_eq_true rfl, Nat.le_of_ble_eq_true rfl⟩ (Nat.le_of_ble_eq_true rfl) dX12_holds_16 (fun v16 e9 => c_X12_at _ _ _ v16 e9) h (fun v16 h => ?_) rfl
        refine xx_iaload C 20 rfl (by decide) (fun _ => rfl) (by decide) dX12_holds_19 h (fun v19 h => ?_)
        refine xx_bipush C 22 rfl dX12_holds_20 (by decide) ?_
        refine jn_r (fun J => ∀ (s0_30 : Int), J s0_30 = some a → wx_ G X 9 ad (ceM G ad) μ 0 0 30 [(0, .ref (ad 0)), (1, .int (iI a1)), (3, .int (iI x3_4))] [.int (iI s0_30), .int (iI x2_4)]) h (fun s0_30 h => ?_) (fun J30 K30 h => ?_)
        · refine xx_iadd C 31 rfl dX12_holds_30 ?_
          refine xx_nm C h (fun n31 h => ?_)
          refine xx_istore_n (lv1 := [(2, .int (iI n31)), (0, .ref (ad 0)), (1, .int (iI a1)), (3, .int (iI x3_4))]) C 32 rfl (by decide) dX12_holds_31 rfl rfl ?_
          refine xx_iincn C 35 rfl 3 (by decide) dX12_holds_32 rfl h (fun n32 h => ?_)
          refine xx_lv (lv1 := [(3, .int (iI n32)), (2, .int (iI n31)), (0, .ref (ad 0)), (1, .int (iI a1))]) rfl ?_
          refine xx_goto C 4 dX12_holds_35 (by decide) ?_
          refine xx_sub [2, 3, 1, 0] rfl ?_
          exact K4 n31 n32 h
        · refine xx_icmp_ne (tgt := 29) C 25 rfl dX12_holds_22 (by decide) h (fun h => ?_) (fun h => ?_)
          · refine xx_iconst C 30 rfl dX12_holds_29 ?_
            refine xx_sub [0, 1, 3] rfl ?_
            exact K30 1 h
          · refine xx_iconst C 26 rfl dX12_holds_25 ?_
            refine xx_goto C 30 dX12_holds_26 (by decide) ?_
            refine xx_sub [0, 1, 3] rfl ?_
            exact K30 0 h
  refine xx_sub [2, 3, 1, 0] rfl ?_
  exact L4 _ _ _ h

def f_X12_held_L40 (a1 : Int) (μ : mu_T) : Nat → Int → Int → Option Int
  | 0, _, _ => none
  | fu40 + 1, x2_40, x3_40 => lt_ x3_40 6
      (rd_ μ 1 293 (11 + x3_40) (fun v55 => jn_ (φ := Int → Option Int) (fun s0_65 => nm_ ((x2_40 + s0_65)) (fun n66 => nm_ (x3_40 + 1) (fun n67 => (f_X12_held_L40 a1 μ fu40) n66 n67)))
      (fun J65 => eq_ v55 a1
      (J65 1)
      (J65 0))))
      (some x2_40)
def f_X12_held_L4 (J38 : Int → Option Int) (a1 : Int) (μ : mu_T) : Nat → Int → Int → Option Int
  | 0, _, _ => none
  | fu4 + 1, x2_4, x3_4 => lt_ x3_4 96
      (rd_ μ 1 293 (137 + x3_4) (fun v20 => jn_ (φ := Int → Option Int) (fun s0_30 => nm_ ((x2_4 + s0_30)) (fun n31 => nm_ (x3_4 + 1) (fun n32 => (f_X12_held_L4 J38 a1 μ fu4) n31 n32)))
      (fun J30 => eq_ v20 a1
      (J30 1)
      (J30 0))))
      (J38 x2_4)
def f_X12_held (μ : mu_T) (a1 : Int) : Option Int :=
  jn_ (φ := Int → Option Int) (fun x2_38 => f_X12_held_L40 a1 μ 20000 x2_38 0)
      (fun J38 => f_X12_held_L4 J38 a1 μ 20000 0 0)
set_option maxHeartbeats 4000000 in
set_option maxRecDepth 100000 in
theorem c_X12_held {G : gp_} {ad : Nat → Nat} (μ : mu_T) (a1 : Int) (a : Int) (h : f_X12_held μ a1 = some a) : mi_ yX12_held cX12_held 4 (some .int) ({ frames := 0, cells := 0, slots := 0, locals := 0 } : Room) G 9 ad (ceM G ad) [.ref (ad 0), .int (iI a1)] μ a μ := by
  refine mi_in (own := "UrnHeapModel") (lv := [(0, .ref (ad 0)), (1, .int (iI a1))]) (by decide) rfl rfl (Nat.le_of_ble_eq_true rfl) (fun X C E => ?_)
  unfold f_X12_held at h
  refine xx_iconst C 1 rfl dX12_held_0 ?_
  refine xx_istore_n (lv1 := [(2, .int (iI 0)), (0, .ref (ad 0)), (1, .int (iI a1))]) C 2 rfl (by decide) dX12_held_1 rfl rfl ?_
  refine xx_iconst C 3 rfl dX12_held_2 ?_
  refine xx_istore_n (lv1 := [(3, .int (iI 0)), (2, .int (iI 0)), (0, .ref (ad 0)), (1, .int (iI a1))]) C 4 rfl (by decide) dX12_held_3 rfl rfl ?_
  refine jn_r (fun J => ∀ (x2_38 : Int), J x2_38 = some a → wx_ G X 9 ad (ceM G ad) μ 0 0 38 [(0, .ref (ad 0)), (1, .int (iI a1)), (2, .int (iI x2_38))] []) h (fun x2_38 h => ?_) (fun J38 K38 h => ?_)
  · refine xx_iconst C 39 rfl dX12_held_38 ?_
    refine xx_istore_n (lv1 := [(3, .int (iI 0)), (0, .ref (ad 0)), (1, .int (iI a1)), (2, .int (iI x2_38))]) C 40 rfl (by decide) dX12_held_39 rfl rfl ?_
    have L40 : ∀ (fu40 : Nat) (x2_40 : Int) (x3_40 : Int), f_X12_held_L40 a1 μ fu40 x2_40 x3_40 = some a → wx_ G X 9 ad (ceM G ad) μ 0 0 40 [(0, .ref (ad 0)), (1, .int (iI a1)), (2, .int (iI x2_40)), (3, .int (iI x3_40))] [] := by
      intro fu40
      induction fu40 with
      | zero => intro x2_40 x3_40 h; exact nn_ h
      | succ fu40 K40 =>
        intro x2_40 x3_40 h
        rw [f_X12_held_L40] at h
        generalize f_X12_held_L40 a1 μ fu40 = R40 at K40 h
        refine xx_iload_n C 41 rfl 3 dX12_held_40 rfl rfl ?_
        refine xx_bipush C 43 rfl dX12_held_41 (by decide) ?_
        refine xx_icmp_ge (tgt := 73) C 46 rfl dX12_held_43 (by decide) h (fun h => ?_) (fun h => ?_)
        · refine xx_iload_n C 74 rfl 2 dX12_held_73 rfl rfl ?_
          exact xx_iretp C E rfl ⟨Nat.le_of_ble_eq_true rfl, Nat.le_of_ble_eq_true rfl⟩ dX12_held_74 h
        · refine xx_iload_n C 47 rfl 2 dX12_held_46 rfl rfl ?_
          refine xx_aload_n C 48 rfl 0 dX12_held_47 rfl rfl ?_
          refine xx_getr (fi := 0) C 51 rfl (by decide) (ceM_0 _ _ _) rfl in_X12 (by decide) rfl rfl w_1171 dX12_held_48 ?_
          refine xx_bipush C 53 rfl dX12_held_51 (by decide) ?_
          refine xx_iload_n C 54 rfl 3 dX12_held_53 rfl rfl ?_
          refine xx_iadd C 55 rfl dX12_held_54 ?_
          refine xx_iaload C 56 rfl (by decide) (fun _ => rfl) (by decide) dX12_held_55 h (fun v55 h => ?_)
          refine xx_iload_n C 57 rfl 1 dX12_held_56 rfl rfl ?_
          refine jn_r (fun J => ∀ (s0_65 : Int), J s0_65 = some a → wx_ G X 9 ad (ceM G ad) μ 0 0 65 [(0, .ref (ad 0)), (1, .int (iI a1)), (3, .int (iI x3_40))] [.int (iI s0_65), .int (iI x2_40)]) h (fun s0_65 h => ?_) (fun J65 K65 h => ?_)
          · refine xx_iadd C 66 rfl dX12_held_65 ?_
            refine xx_nm C h (fun n66 h => ?_)
            refine xx_istore_n (lv1 := [(2, .int (iI n66)), (0, .ref (ad 0)), (1, .int (iI a1)), (3, .int (iI x3_40))]) C 67 rfl (by decide) dX12_held_66 rfl rfl ?_
            refine xx_iincn C 70 rfl 3 (by decide) dX12_held_67 rfl h (fun n67 h => ?_)
            refine xx_lv (lv1 := [(3, .int (iI n67)), (2, .int (iI n66)), (0, .ref (ad 0)), (1, .int (iI a1))]) rfl ?_
            refine xx_goto C 40 dX12_held_70 (by decide) ?_
            refine xx_sub [2, 3, 1, 0] rfl ?_
            exact K40 n66 n67 h
          · refine xx_icmp_ne (tgt := 64) C 60 rfl dX12_held_57 (by decide) h (fun h => ?_) (fun h => ?_)
            · refine xx_iconst C 65 rfl dX12_held_64 ?_
              refine xx_sub [0, 1, 3] rfl ?_
              exact K65 0 h
            · refine xx_iconst C 61 rfl dX12_held_60 ?_
              refine xx_goto C 65 dX12_held_61 (by decide) ?_
              refine xx_sub [0, 1, 3] rfl ?_
              exact K65 1 h
    refine xx_sub [1, 2, 3, 0] rfl ?_
    exact L40 _ _ _ h
  · have L4 : ∀ (fu4 : Nat) (x2_4 : Int) (x3_4 : Int), f_X12_held_L4 J38 a1 μ fu4 x2_4 x3_4 = some a → wx_ G X 9 ad (ceM G ad) μ 0 0 4 [(0, .ref (ad 0)), (1, .int (iI a1)), (2, .int (iI x2_4)), (3, .int (iI x3_4))] [] := by
      intro fu4
      induction fu4 with
      | zero => intro x2_4 x3_4 h; exact nn_ h
      | succ fu4 K4 =>
        intro x2_4 x3_4 h
        rw [f_X12_held_L4] at h
        generalize f_X12_held_L4 J38 a1 μ fu4 = R4 at K4 h
        refine xx_iload_n C 5 rfl 3 dX12_held_4 rfl rfl ?_
        refine xx_bipush C 7 rfl dX12_held_5 (by decide) ?_
        refine xx_icmp_ge (tgt := 38) C 10 rfl dX12_held_7 (by decide) h (fun h => ?_) (fun h => ?_)
        · refine xx_sub [0, 1, 2] rfl ?_
          exact K38 x2_4 h
        · refine xx_iload_n C 11 rfl 2 dX12_held_10 rfl rfl ?_
          refine xx_aload_n C 12 rfl 0 dX12_held_11 rfl rfl ?_
          refine xx_getr (fi := 0) C 15 rfl (by decide) (ceM_0 _ _ _) rfl in_X12 (by decide) rfl rfl w_1171 dX12_held_12 ?_
          refine xx_sipush C 18 rfl dX12_held_15 (by decide) ?_
          refine xx_iload_n C 19 rfl 3 dX12_held_18 rfl rfl ?_
          refine xx_iadd C 20 rfl dX12_held_19 ?_
          refine xx_iaload C 21 rfl (by decide) (fun _ => rfl) (by decide) dX12_held_20 h (fun v20 h => ?_)
          refine xx_iload_n C 22 rfl 1 dX12_held_21 rfl rfl ?_
          refine jn_r (fun J => ∀ (s0_30 : Int), J s0_30 = some a → wx_ G X 9 ad (ceM G ad) μ 0 0 30 [(0, .ref (ad 0)), (1, .int (iI a1)), (3, .int (iI x3_4))] [.int (iI s0_30), .int (iI x2_4)]) h (fun s0_30 h => ?_) (fun J30 K30 h => ?_)
          · refine xx_iadd C 31 rfl dX12_held_30 ?_
            refine xx_nm C h (fun n31 h => ?_)
            refine xx_istore_n (lv1 := [(2, .int (iI n31)), (0, .ref (ad 0)), (1, .int (iI a1)), (3, .int (iI x3_4))]) C 32 rfl (by decide) dX12_held_31 rfl rfl ?_
            refine xx_iincn C 35 rfl 3 (by decide) dX12_held_32 rfl h (fun n32 h => ?_)
            refine xx_lv (lv1 := [(3, .int (iI n32)), (2, .int (iI n31)), (0, .ref (ad 0)), (1, .int (iI a1))]) rfl ?_
            refine xx_goto C 4 dX12_held_35 (by decide) ?_
            refine xx_sub [2, 3, 1, 0] rfl ?_
            exact K4 n31 n32 h
          · refine xx_icmp_ne (tgt := 29) C 25 rfl dX12_held_22 (by decide) h (fun h => ?_) (fun h => ?_)
            · refine xx_iconst C 30 rfl dX12_held_29 ?_
              refine xx_sub [0, 1, 3] rfl ?_
              exact K30 0 h
            · refine xx_iconst C 26 rfl dX12_held_25 ?_
              refine xx_goto C 30 dX12_held_26 (by decide) ?_
              refine xx_sub [0, 1, 3] rfl ?_
              exact K30 1 h
    refine xx_sub [2, 3, 1, 0] rfl ?_
    exact L4 _ _ _ h

def f_X12_urnOf (μ : mu_T) (a1 : Int) (a2 : Int) : Option Int :=
  bd_ (f_X12_isUrn μ a1) (fun v2 => eq_ v2 0
      (some (-11))
      (ts_ a2 [0, 1, 2, 3, 4, 5] [rd_ μ 1 293 (41 + a1) (fun v60 => some v60),
      rd_ μ 1 293 (65 + a1) (fun v70 => some v70),
      bd_ (f_X12_holds μ a1) (fun v74 => some v74),
      bd_ (f_X12_held μ a1) (fun v80 => some v80),
      rd_ μ 1 293 (113 + a1) (fun v92 => some v92),
      rd_ μ 1 293 (89 + a1) (fun v102 => some v102)]
      (some (-12))))
set_option maxHeartbeats 4000000 in
set_option maxRecDepth 100000 in
theorem c_X12_urnOf {G : gp_} {ad : Nat → Nat} (μ : mu_T) (a1 : Int) (a2 : Int) (a : Int) (h : f_X12_urnOf μ a1 a2 = some a) : mi_ yX12_urnOf cX12_urnOf 3 (some .int) ({ frames := 2, cells := 0, slots := 0, locals := 44 } : Room) G 9 ad (ceM G ad) [.ref (ad 0), .int (iI a1), .int (iI a2)] μ a μ := by
  refine mi_in (own := "UrnHeapModel") (lv := [(0, .ref (ad 0)), (1, .int (iI a1)), (2, .int (iI a2))]) (by decide) rfl rfl (Nat.le_of_ble_eq_true rfl) (fun X C E => ?_)
  unfold f_X12_urnOf at h
  refine xx_aload_n C 1 rfl 0 dX12_urnOf_0 rfl rfl ?_
  refine xx_iload_n C 2 rfl 1 dX12_urnOf_1 rfl rfl ?_
  refine xx_cVip (As := [.int (iI a1)]) (st := []) (o := 0) C 5 rfl (by decide) (ceM_0 _ _ _) rfl rfl ca_X12_isUrn cv_X12_isUrn w_1268 rfl ⟨Nat.le_of_ble_eq_true rfl, Nat.le_of_ble_eq_true rfl⟩ ⟨Nat.le_of_ble_eq_true rfl, Nat.le_of_ble_eq_true rfl⟩ (Nat.le_of_ble_eq_true rfl) dX12_urnOf_2 (fun v2 e9 => c_X12_isUrn _ _ v2 e9) h (fun v2 h => ?_) rfl
  refine xx_if_ne (tgt := 11) C 8 rfl dX12_urnOf_5 (by decide) h (fun h => ?_) (fun h => ?_)
  · refine xx_iload_n C 12 rfl 2 dX12_urnOf_11 rfl rfl ?_
    refine xx_tsw C [0, 1, 2, 3, 4, 5] _ [52, 62, 72, 78, 84, 94] 104 dX12_urnOf_12 (by decide) rfl h (fun h => ?_) ⟨fun h => ?_, fun h => ?_, fun h => ?_, fun h => ?_, fun h => ?_, fun h => ?_, trivial⟩
    · refine xx_bipush C 106 rfl dX12_urnOf_104 (by decide) ?_
      exact xx_iretp C E rfl ⟨Nat.le_of_ble_eq_true rfl, Nat.le_of_ble_eq_true rfl⟩ dX12_urnOf_106 h
    · refine xx_aload_n C 53 rfl 0 dX12_urnOf_52 rfl rfl ?_
      refine xx_getr (fi := 0) C 56 rfl (by decide) (ceM_0 _ _ _) rfl in_X12 (by decide) rfl rfl w_1171 dX12_urnOf_53 ?_
      refine xx_bipush C 58 rfl dX12_urnOf_56 (by decide) ?_
      refine xx_iload_n C 59 rfl 1 dX12_urnOf_58 rfl rfl ?_
      refine xx_iadd C 60 rfl dX12_urnOf_59 ?_
      refine xx_iaload C 61 rfl (by decide) (fun _ => rfl) (by decide) dX12_urnOf_60 h (fun v60 h => ?_)
      exact xx_iretp C E rfl ⟨Nat.le_of_ble_eq_true rfl, Nat.le_of_ble_eq_true rfl⟩ dX12_urnOf_61 h
    · refine xx_aload_n C 63 rfl 0 dX12_urnOf_62 rfl rfl ?_
      refine xx_getr (fi := 0) C 66 rfl (by decide) (ceM_0 _ _ _) rfl in_X12 (by decide) rfl rfl w_1171 dX12_urnOf_63 ?_
      refine xx_bipush C 68 rfl dX12_urnOf_66 (by decide) ?_
      refine xx_iload_n C 69 rfl 1 dX12_urnOf_68 rfl rfl ?_
      refine xx_iadd C 70 rfl dX12_urnOf_69 ?_
      refine xx_iaload C 71 rfl (by decide) (fun _ => rfl) (by decide) dX12_urnOf_70 h (fun v70 h => ?_)
      exact xx_iretp C E rfl ⟨Nat.le_of_ble_eq_true rfl, Nat.le_of_ble_eq_true rfl⟩ dX12_urnOf_71 h
    · refine xx_aload_n C 73 rfl 0 dX12_urnOf_72 rfl rfl ?_
      refine xx_iload_n C 74 rfl 1 dX12_urnOf_73 rfl rfl ?_
      refine xx_cVip (As := [.int (iI a1)]) (st := []) (o := 0) C 77 rfl (by decide) (ceM_0 _ _ _) rfl rfl ca_X12_holds cv_X12_holds w_1327 rfl ⟨Nat.le_of_ble_eq_true rfl, Nat.le_of_ble_eq_true rfl⟩ ⟨Nat.le_of_ble_eq_true rfl, Nat.le_of_ble_eq_true rfl⟩ (Nat.le_of_ble_eq_true rfl) dX12_urnOf_74 (fun v74 e9 => c_X12_holds _ _ v74 e9) h (fun v74 h => ?_) rfl
      exact xx_iretp C E rfl ⟨Nat.le_of_ble_eq_true rfl, Nat.le_of_ble_eq_true rfl⟩ dX12_urnOf_77 h
    · refine xx_aload_n C 79 rfl 0 dX12_urnOf_78 rfl rfl ?_
      refine xx_iload_n C 80 rfl 1 dX12_urnOf_79 rfl rfl ?_
      refine xx_cVip (As := [.int (iI a1)]) (st := []) (o := 0) C 83 rfl (by decide) (ceM_0 _ _ _) rfl rfl ca_X12_held cv_X12_held w_1331 rfl ⟨Nat.le_of_ble_eq_true rfl, Nat.le_of_ble_eq_true rfl⟩ ⟨Nat.le_of_ble_eq_true rfl, Nat.le_of_ble_eq_true rfl⟩ (Nat.le_of_ble_eq_true rfl) dX12_urnOf_80 (fun v80 e9 => c_X12_held _ _ v80 e9) h (fun v80 h => ?_) rfl
      exact xx_iretp C E rfl ⟨Nat.le_of_ble_eq_true rfl, Nat.le_of_ble_eq_true rfl⟩ dX12_urnOf_83 h
    · refine xx_aload_n C 85 rfl 0 dX12_urnOf_84 rfl rfl ?_
      refine xx_getr (fi := 0) C 88 rfl (by decide) (ceM_0 _ _ _) rfl in_X12 (by decide) rfl rfl w_1171 dX12_urnOf_85 ?_
      refine xx_bipush C 90 rfl dX12_urnOf_88 (by decide) ?_
      refine xx_iload_n C 91 rfl 1 dX12_urnOf_90 rfl rfl ?_
      refine xx_iadd C 92 rfl dX12_urnOf_91 ?_
      refine xx_iaload C 93 rfl (by decide) (fun _ => rfl) (by decide) dX12_urnOf_92 h (fun v92 h => ?_)
      exact xx_iretp C E rfl ⟨Nat.le_of_ble_eq_true rfl, Nat.le_of_ble_eq_true rfl⟩ dX12_urnOf_93 h
    · refine xx_aload_n C 95 rfl 0 dX12_urnOf_94 rfl rfl ?_
      refine xx_getr (fi := 0) C 98 rfl (by decide) (ceM_0 _ _ _) rfl in_X12 (by decide) rfl rfl w_1171 dX12_urnOf_95 ?_
      refine xx_bipush C 100 rfl dX12_urnOf_98 (by decide) ?_
      refine xx_iload_n C 101 rfl 1 dX12_urnOf_100 rfl rfl ?_
      refine xx_iadd C 102 rfl dX12_urnOf_101 ?_
      refine xx_iaload C 103 rfl (by decide) (fun _ => rfl) (by decide) dX12_urnOf_102 h (fun v102 h => ?_)
      exact xx_iretp C E rfl ⟨Nat.le_of_ble_eq_true rfl, Nat.le_of_ble_eq_true rfl⟩ dX12_urnOf_103 h
  · refine xx_bipush C 10 rfl dX12_urnOf_8 (by decide) ?_
    exact xx_iretp C E rfl ⟨Nat.le_of_ble_eq_true rfl, Nat.le_of_ble_eq_true rfl⟩ dX12_urnOf_10 h

def f_X12_threadOf (μ : mu_T) (a1 : Int) (a2 : Int) : Option Int :=
  bd_ (f_X12_isUrn μ a1) (fun v2 => eq_ v2 0
      (some (-11))
      (bd_ (f_X12_in μ a2 0 3) (fun v11 => eq_ v11 0
      (some (-11))
      (bd_ (f_X12_at μ a1 a2) (fun v23 => rd_ μ 1 293 v23 (fun v26 => some v26))))))
set_option maxHeartbeats 4000000 in
set_option maxRecDepth 100000 in
theorem c_X12_threadOf {G : gp_} {ad : Nat → Nat} (μ : mu_T) (a1 : Int) (a2 : Int) (a : Int) (h : f_X12_threadOf μ a1 a2 = some a) : mi_ yX12_threadOf cX12_threadOf 3 (some .int) ({ frames := 2, cells := 0, slots := 0, locals := 43 } : Room) G 9 ad (ceM G ad) [.ref (ad 0), .int (iI a1), .int (iI a2)] μ a μ := by
  refine mi_in (own := "UrnHeapModel") (lv := [(0, .ref (ad 0)), (1, .int (iI a1)), (2, .int (iI a2))]) (by decide) rfl rfl (Nat.le_of_ble_eq_true rfl) (fun X C E => ?_)
  unfold f_X12_threadOf at h
  refine xx_aload_n C 1 rfl 0 dX12_threadOf_0 rfl rfl ?_
  refine xx_iload_n C 2 rfl 1 dX12_threadOf_1 rfl rfl ?_
  refine xx_cVip (As := [.int (iI a1)]) (st := []) (o := 0) C 5 rfl (by decide) (ceM_0 _ _ _) rfl rfl ca_X12_isUrn cv_X12_isUrn w_1268 rfl ⟨Nat.le_of_ble_eq_true rfl, Nat.le_of_ble_eq_true rfl⟩ ⟨Nat.le_of_ble_eq_true rfl, Nat.le_of_ble_eq_true rfl⟩ (Nat.le_of_ble_eq_true rfl) dX12_threadOf_2 (fun v2 e9 => c_X12_isUrn _ _ v2 e9) h (fun v2 h => ?_) rfl
  refine xx_if_eq (tgt := 30) C 8 rfl dX12_threadOf_5 (by decide) h (fun h => ?_) (fun h => ?_)
  · refine xx_bipush C 32 rfl dX12_threadOf_30 (by decide) ?_
    exact xx_iretp C E rfl ⟨Nat.le_of_ble_eq_true rfl, Nat.le_of_ble_eq_true rfl⟩ dX12_threadOf_32 h
  · refine xx_iload_n C 9 rfl 2 dX12_threadOf_8 rfl rfl ?_
    refine xx_iconst C 10 rfl dX12_threadOf_9 ?_
    refine xx_iconst C 11 rfl dX12_threadOf_10 ?_
    refine xx_cSip (As := [.int (iI a2), .int (iI 0), .int (iI 3)]) (st := []) C 14 rfl  ca_X12_in cs_X12_in w_1272 rfl ⟨Nat.le_of_ble_eq_true rfl, Nat.le_of_ble_eq_true rfl⟩ ⟨Nat.le_of_ble_eq_true rfl, Nat.le_of_ble_eq_true rfl⟩ (Nat.le_of_ble_eq_true rfl) dX12_threadOf_11 (fun v11 e9 => c_X12_in _ _ _ _ v11 e9) h (fun v11 h => ?_) rfl
    refine xx_if_eq (tgt := 30) C 17 rfl dX12_threadOf_14 (by decide) h (fun h => ?_) (fun h => ?_)
    · refine xx_bipush C 32 rfl dX12_threadOf_30 (by decide) ?_
      exact xx_iretp C E rfl ⟨Nat.le_of_ble_eq_true rfl, Nat.le_of_ble_eq_true rfl⟩ dX12_threadOf_32 h
    · refine xx_aload_n C 18 rfl 0 dX12_threadOf_17 rfl rfl ?_
      refine xx_getr (fi := 0) C 21 rfl (by decide) (ceM_0 _ _ _) rfl in_X12 (by decide) rfl rfl w_1171 dX12_threadOf_18 ?_
      refine xx_iload_n C 22 rfl 1 dX12_threadOf_21 rfl rfl ?_
      refine xx_iload_n C 23 rfl 2 dX12_threadOf_22 rfl rfl ?_
      refine xx_cSip (As := [.int (iI a1), .int (iI a2)]) (st := [.ref (ad 1)]) C 26 rfl  ca_X12_at cs_X12_at w_1168 rfl ⟨Nat.le_of_ble_eq_true rfl, Nat.le_of_ble_eq_true rfl⟩ ⟨Nat.le_of_ble_eq_true rfl, Nat.le_of_ble_eq_true rfl⟩ (Nat.le_of_ble_eq_true rfl) dX12_threadOf_23 (fun v23 e9 => c_X12_at _ _ _ v23 e9) h (fun v23 h => ?_) rfl
      refine xx_iaload C 27 rfl (by decide) (fun _ => rfl) (by decide) dX12_threadOf_26 h (fun v26 h => ?_)
      refine xx_goto C 32 dX12_threadOf_27 (by decide) ?_
      exact xx_iretp C E rfl ⟨Nat.le_of_ble_eq_true rfl, Nat.le_of_ble_eq_true rfl⟩ dX12_threadOf_32 h

def f_X12_named (μ : mu_T) (a1 : Int) : Option Int :=
  bd_ (f_X12_in μ a1 0 5) (fun v3 => eq_ v3 0
      (some (-11))
      (rd_ μ 1 293 (11 + a1) (fun v17 => some v17)))
set_option maxHeartbeats 4000000 in
set_option maxRecDepth 100000 in
theorem c_X12_named {G : gp_} {ad : Nat → Nat} (μ : mu_T) (a1 : Int) (a : Int) (h : f_X12_named μ a1 = some a) : mi_ yX12_named cX12_named 2 (some .int) ({ frames := 1, cells := 0, slots := 0, locals := 22 } : Room) G 9 ad (ceM G ad) [.ref (ad 0), .int (iI a1)] μ a μ := by
  refine mi_in (own := "UrnHeapModel") (lv := [(0, .ref (ad 0)), (1, .int (iI a1))]) (by decide) rfl rfl (Nat.le_of_ble_eq_true rfl) (fun X C E => ?_)
  unfold f_X12_named at h
  refine xx_iload_n C 1 rfl 1 dX12_named_0 rfl rfl ?_
  refine xx_iconst C 2 rfl dX12_named_1 ?_
  refine xx_iconst C 3 rfl dX12_named_2 ?_
  refine xx_cSip (As := [.int (iI a1), .int (iI 0), .int (iI 5)]) (st := []) C 6 rfl  ca_X12_in cs_X12_in w_1272 rfl ⟨Nat.le_of_ble_eq_true rfl, Nat.le_of_ble_eq_true rfl⟩ ⟨Nat.le_of_ble_eq_true rfl, Nat.le_of_ble_eq_true rfl⟩ (Nat.le_of_ble_eq_true rfl) dX12_named_3 (fun v3 e9 => c_X12_in _ _ _ _ v3 e9) h (fun v3 h => ?_) rfl
  refine xx_if_eq (tgt := 21) C 9 rfl dX12_named_6 (by decide) h (fun h => ?_) (fun h => ?_)
  · refine xx_bipush C 23 rfl dX12_named_21 (by decide) ?_
    exact xx_iretp C E rfl ⟨Nat.le_of_ble_eq_true rfl, Nat.le_of_ble_eq_true rfl⟩ dX12_named_23 h
  · refine xx_aload_n C 10 rfl 0 dX12_named_9 rfl rfl ?_
    refine xx_getr (fi := 0) C 13 rfl (by decide) (ceM_0 _ _ _) rfl in_X12 (by decide) rfl rfl w_1171 dX12_named_10 ?_
    refine xx_bipush C 15 rfl dX12_named_13 (by decide) ?_
    refine xx_iload_n C 16 rfl 1 dX12_named_15 rfl rfl ?_
    refine xx_iadd C 17 rfl dX12_named_16 ?_
    refine xx_iaload C 18 rfl (by decide) (fun _ => rfl) (by decide) dX12_named_17 h (fun v17 h => ?_)
    refine xx_goto C 23 dX12_named_18 (by decide) ?_
    exact xx_iretp C E rfl ⟨Nat.le_of_ble_eq_true rfl, Nat.le_of_ble_eq_true rfl⟩ dX12_named_23 h

def f_X12_begin (μ : mu_T)  : Option (Int × mu_T) :=
  bd_ (f_X12_remembers μ) (fun μ1 => rd_ μ1 1 293 0 (fun v10 => lt_ 0 v10
      (rd_ μ1 1 293 0 (fun v21 => bp_ (f_X12_refused μ1 4 v21) (fun v22 μ22 => bp_ (f_X12_ends μ22 v22) (fun v36 μ36 => some (v36, μ36)))))
      (bp_ (f_X12_beginsRound μ1) (fun v30 μ30 => bp_ (f_X12_done μ30 v30) (fun v33 μ33 => bp_ (f_X12_ends μ33 v33) (fun v36 μ36 => some (v36, μ36)))))))
set_option maxHeartbeats 4000000 in
set_option maxRecDepth 100000 in
theorem c_X12_begin {G : gp_} {ad : Nat → Nat} (μ : mu_T)  (a : Int) (μr : mu_T) (h : f_X12_begin μ  = some (a, μr)) : mi_ yX12_begin cX12_begin 1 (some .int) ({ frames := 3, cells := 0, slots := 0, locals := 63 } : Room) G 9 ad (ceM G ad) [.ref (ad 0)] μ a μr := by
  refine mi_in (own := "UrnHeapModel") (lv := [(0, .ref (ad 0))]) (by decide) rfl rfl (Nat.le_of_ble_eq_true rfl) (fun X C E => ?_)
  unfold f_X12_begin at h
  refine xx_aload_n C 1 rfl 0 dX12_begin_0 rfl rfl ?_
  refine xx_cVv (As := []) (st := []) (o := 0) C 4 rfl (by decide) (ceM_0 _ _ _) rfl rfl ca_X12_remembers cv_X12_remembers w_1236 rfl ⟨Nat.le_of_ble_eq_true rfl, Nat.le_of_ble_eq_true rfl⟩ ⟨Nat.le_of_ble_eq_true rfl, Nat.le_of_ble_eq_true rfl⟩ (Nat.le_of_ble_eq_true rfl) dX12_begin_1 (fun μ1 e9 => c_X12_remembers _ μ1 e9) h (fun μ1 h => ?_) rfl
  refine xx_aload_n C 5 rfl 0 dX12_begin_4 rfl rfl ?_
  refine xx_aload_n C 6 rfl 0 dX12_begin_5 rfl rfl ?_
  refine xx_getr (fi := 0) C 9 rfl (by decide) (ceM_0 _ _ _) rfl in_X12 (by decide) rfl rfl w_1171 dX12_begin_6 ?_
  refine xx_iconst C 10 rfl dX12_begin_9 ?_
  refine xx_iaload C 11 rfl (by decide) (fun _ => rfl) (by decide) dX12_begin_10 h (fun v10 h => ?_)
  refine xx_if_le (tgt := 28) C 14 rfl dX12_begin_11 (by decide) h (fun h => ?_) (fun h => ?_)
  · refine xx_aload_n C 29 rfl 0 dX12_begin_28 rfl rfl ?_
    refine xx_aload_n C 30 rfl 0 dX12_begin_29 rfl rfl ?_
    refine xx_cVi (As := []) (st := [.ref (ad 0), .ref (ad 0)]) (o := 0) C 33 rfl (by decide) (ceM_0 _ _ _) rfl rfl ca_X12_beginsRound cv_X12_beginsRound w_1347 rfl ⟨Nat.le_of_ble_eq_true rfl, Nat.le_of_ble_eq_true rfl⟩ ⟨Nat.le_of_ble_eq_true rfl, Nat.le_of_ble_eq_true rfl⟩ (Nat.le_of_ble_eq_true rfl) dX12_begin_30 (fun v30 μ30 e9 => c_X12_beginsRound _ v30 μ30 e9) h (fun v30 μ30 h => ?_) rfl
    refine xx_cVi (As := [.int (iI v30)]) (st := [.ref (ad 0)]) (o := 0) C 36 rfl (by decide) (ceM_0 _ _ _) rfl rfl ca_X12_done cv_X12_done w_1248 rfl ⟨Nat.le_of_ble_eq_true rfl, Nat.le_of_ble_eq_true rfl⟩ ⟨Nat.le_of_ble_eq_true rfl, Nat.le_of_ble_eq_true rfl⟩ (Nat.le_of_ble_eq_true rfl) dX12_begin_33 (fun v33 μ33 e9 => c_X12_done _ _ v33 μ33 e9) h (fun v33 μ33 h => ?_) rfl
    refine xx_cVi (As := [.int (iI v33)]) (st := []) (o := 0) C 39 rfl (by decide) (ceM_0 _ _ _) rfl rfl ca_X12_ends cv_X12_ends w_1252 rfl ⟨Nat.le_of_ble_eq_true rfl, Nat.le_of_ble_eq_true rfl⟩ ⟨Nat.le_of_ble_eq_true rfl, Nat.le_of_ble_eq_true rfl⟩ (Nat.le_of_ble_eq_true rfl) dX12_begin_36 (fun v36 μ36 e9 => c_X12_ends _ _ v36 μ36 e9) h (fun v36 μ36 h => ?_) rfl
    exact xx_iret C E rfl ⟨Nat.le_of_ble_eq_true rfl, Nat.le_of_ble_eq_true rfl⟩ dX12_begin_39 h
  · refine xx_aload_n C 15 rfl 0 dX12_begin_14 rfl rfl ?_
    refine xx_iconst C 16 rfl dX12_begin_15 ?_
    refine xx_aload_n C 17 rfl 0 dX12_begin_16 rfl rfl ?_
    refine xx_getr (fi := 0) C 20 rfl (by decide) (ceM_0 _ _ _) rfl in_X12 (by decide) rfl rfl w_1171 dX12_begin_17 ?_
    refine xx_iconst C 21 rfl dX12_begin_20 ?_
    refine xx_iaload C 22 rfl (by decide) (fun _ => rfl) (by decide) dX12_begin_21 h (fun v21 h => ?_)
    refine xx_cVi (As := [.int (iI 4), .int (iI v21)]) (st := [.ref (ad 0)]) (o := 0) C 25 rfl (by decide) (ceM_0 _ _ _) rfl rfl ca_X12_refused cv_X12_refused w_1244 rfl ⟨Nat.le_of_ble_eq_true rfl, Nat.le_of_ble_eq_true rfl⟩ ⟨Nat.le_of_ble_eq_true rfl, Nat.le_of_ble_eq_true rfl⟩ (Nat.le_of_ble_eq_true rfl) dX12_begin_22 (fun v22 μ22 e9 => c_X12_refused _ _ _ v22 μ22 e9) h (fun v22 μ22 h => ?_) rfl
    refine xx_goto C 36 dX12_begin_25 (by decide) ?_
    refine xx_cVi (As := [.int (iI v22)]) (st := []) (o := 0) C 39 rfl (by decide) (ceM_0 _ _ _) rfl rfl ca_X12_ends cv_X12_ends w_1252 rfl ⟨Nat.le_of_ble_eq_true rfl, Nat.le_of_ble_eq_true rfl⟩ ⟨Nat.le_of_ble_eq_true rfl, Nat.le_of_ble_eq_true rfl⟩ (Nat.le_of_ble_eq_true rfl) dX12_begin_36 (fun v36 μ36 e9 => c_X12_ends _ _ v36 μ36 e9) h (fun v36 μ36 h => ?_) rfl
    exact xx_iret C E rfl ⟨Nat.le_of_ble_eq_true rfl, Nat.le_of_ble_eq_true rfl⟩ dX12_begin_39 h

def f_X12_step (μ : mu_T) (a1 : Int) : Option (Int × mu_T) :=
  bd_ (f_X12_remembers μ) (fun μ1 => bp_ (f_X12_stepsOn μ1 a1) (fun v7 μ7 => bp_ (f_X12_ends μ7 v7) (fun v10 μ10 => some (v10, μ10))))
set_option maxHeartbeats 4000000 in
set_option maxRecDepth 100000 in
theorem c_X12_step {G : gp_} {ad : Nat → Nat} (μ : mu_T) (a1 : Int) (a : Int) (μr : mu_T) (h : f_X12_step μ a1 = some (a, μr)) : mi_ yX12_step cX12_step 2 (some .int) ({ frames := 7, cells := 0, slots := 0, locals := 150 } : Room) G 9 ad (ceM G ad) [.ref (ad 0), .int (iI a1)] μ a μr := by
  refine mi_in (own := "UrnHeapModel") (lv := [(0, .ref (ad 0)), (1, .int (iI a1))]) (by decide) rfl rfl (Nat.le_of_ble_eq_true rfl) (fun X C E => ?_)
  unfold f_X12_step at h
  refine xx_aload_n C 1 rfl 0 dX12_step_0 rfl rfl ?_
  refine xx_cVv (As := []) (st := []) (o := 0) C 4 rfl (by decide) (ceM_0 _ _ _) rfl rfl ca_X12_remembers cv_X12_remembers w_1236 rfl ⟨Nat.le_of_ble_eq_true rfl, Nat.le_of_ble_eq_true rfl⟩ ⟨Nat.le_of_ble_eq_true rfl, Nat.le_of_ble_eq_true rfl⟩ (Nat.le_of_ble_eq_true rfl) dX12_step_1 (fun μ1 e9 => c_X12_remembers _ μ1 e9) h (fun μ1 h => ?_) rfl
  refine xx_aload_n C 5 rfl 0 dX12_step_4 rfl rfl ?_
  refine xx_aload_n C 6 rfl 0 dX12_step_5 rfl rfl ?_
  refine xx_iload_n C 7 rfl 1 dX12_step_6 rfl rfl ?_
  refine xx_cVi (As := [.int (iI a1)]) (st := [.ref (ad 0)]) (o := 0) C 10 rfl (by decide) (ceM_0 _ _ _) rfl rfl ca_X12_stepsOn cv_X12_stepsOn w_1355 rfl ⟨Nat.le_of_ble_eq_true rfl, Nat.le_of_ble_eq_true rfl⟩ ⟨Nat.le_of_ble_eq_true rfl, Nat.le_of_ble_eq_true rfl⟩ (Nat.le_of_ble_eq_true rfl) dX12_step_7 (fun v7 μ7 e9 => c_X12_stepsOn _ _ v7 μ7 e9) h (fun v7 μ7 h => ?_) rfl
  refine xx_cVi (As := [.int (iI v7)]) (st := []) (o := 0) C 13 rfl (by decide) (ceM_0 _ _ _) rfl rfl ca_X12_ends cv_X12_ends w_1252 rfl ⟨Nat.le_of_ble_eq_true rfl, Nat.le_of_ble_eq_true rfl⟩ ⟨Nat.le_of_ble_eq_true rfl, Nat.le_of_ble_eq_true rfl⟩ (Nat.le_of_ble_eq_true rfl) dX12_step_10 (fun v10 μ10 e9 => c_X12_ends _ _ v10 μ10 e9) h (fun v10 μ10 h => ?_) rfl
  exact xx_iret C E rfl ⟨Nat.le_of_ble_eq_true rfl, Nat.le_of_ble_eq_true rfl⟩ dX12_step_13 h

def f_X12_round (μ : mu_T)  : Option (Int × mu_T) :=
  bd_ (f_X12_remembers μ) (fun μ1 => bp_ (f_X12_wholeRound μ1) (fun v6 μ6 => bp_ (f_X12_ends μ6 v6) (fun v9 μ9 => some (v9, μ9))))
set_option maxHeartbeats 4000000 in
set_option maxRecDepth 100000 in
theorem c_X12_round {G : gp_} {ad : Nat → Nat} (μ : mu_T)  (a : Int) (μr : mu_T) (h : f_X12_round μ  = some (a, μr)) : mi_ yX12_round cX12_round 1 (some .int) ({ frames := 7, cells := 0, slots := 0, locals := 152 } : Room) G 9 ad (ceM G ad) [.ref (ad 0)] μ a μr := by
  refine mi_in (own := "UrnHeapModel") (lv := [(0, .ref (ad 0))]) (by decide) rfl rfl (Nat.le_of_ble_eq_true rfl) (fun X C E => ?_)
  unfold f_X12_round at h
  refine xx_aload_n C 1 rfl 0 dX12_round_0 rfl rfl ?_
  refine xx_cVv (As := []) (st := []) (o := 0) C 4 rfl (by decide) (ceM_0 _ _ _) rfl rfl ca_X12_remembers cv_X12_remembers w_1236 rfl ⟨Nat.le_of_ble_eq_true rfl, Nat.le_of_ble_eq_true rfl⟩ ⟨Nat.le_of_ble_eq_true rfl, Nat.le_of_ble_eq_true rfl⟩ (Nat.le_of_ble_eq_true rfl) dX12_round_1 (fun μ1 e9 => c_X12_remembers _ μ1 e9) h (fun μ1 h => ?_) rfl
  refine xx_aload_n C 5 rfl 0 dX12_round_4 rfl rfl ?_
  refine xx_aload_n C 6 rfl 0 dX12_round_5 rfl rfl ?_
  refine xx_cVi (As := []) (st := [.ref (ad 0)]) (o := 0) C 9 rfl (by decide) (ceM_0 _ _ _) rfl rfl ca_X12_wholeRound cv_X12_wholeRound w_1391 rfl ⟨Nat.le_of_ble_eq_true rfl, Nat.le_of_ble_eq_true rfl⟩ ⟨Nat.le_of_ble_eq_true rfl, Nat.le_of_ble_eq_true rfl⟩ (Nat.le_of_ble_eq_true rfl) dX12_round_6 (fun v6 μ6 e9 => c_X12_wholeRound _ v6 μ6 e9) h (fun v6 μ6 h => ?_) rfl
  refine xx_cVi (As := [.int (iI v6)]) (st := []) (o := 0) C 12 rfl (by decide) (ceM_0 _ _ _) rfl rfl ca_X12_ends cv_X12_ends w_1252 rfl ⟨Nat.le_of_ble_eq_true rfl, Nat.le_of_ble_eq_true rfl⟩ ⟨Nat.le_of_ble_eq_true rfl, Nat.le_of_ble_eq_true rfl⟩ (Nat.le_of_ble_eq_true rfl) dX12_round_9 (fun v9 μ9 e9 => c_X12_ends _ _ v9 μ9 e9) h (fun v9 μ9 h => ?_) rfl
  exact xx_iret C E rfl ⟨Nat.le_of_ble_eq_true rfl, Nat.le_of_ble_eq_true rfl⟩ dX12_round_12 h

def f_X12_rite (μ : mu_T)  : Option (Int × mu_T) :=
  bd_ (f_X12_remembers μ) (fun μ1 => bp_ (f_X12_doesRite μ1) (fun v6 μ6 => bp_ (f_X12_ends μ6 v6) (fun v9 μ9 => some (v9, μ9))))
set_option maxHeartbeats 4000000 in
set_option maxRecDepth 100000 in
theorem c_X12_rite {G : gp_} {ad : Nat → Nat} (μ : mu_T)  (a : Int) (μr : mu_T) (h : f_X12_rite μ  = some (a, μr)) : mi_ yX12_rite cX12_rite 1 (some .int) ({ frames := 2, cells := 0, slots := 0, locals := 44 } : Room) G 9 ad (ceM G ad) [.ref (ad 0)] μ a μr := by
  refine mi_in (own := "UrnHeapModel") (lv := [(0, .ref (ad 0))]) (by decide) rfl rfl (Nat.le_of_ble_eq_true rfl) (fun X C E => ?_)
  unfold f_X12_rite at h
  refine xx_aload_n C 1 rfl 0 dX12_rite_0 rfl rfl ?_
  refine xx_cVv (As := []) (st := []) (o := 0) C 4 rfl (by decide) (ceM_0 _ _ _) rfl rfl ca_X12_remembers cv_X12_remembers w_1236 rfl ⟨Nat.le_of_ble_eq_true rfl, Nat.le_of_ble_eq_true rfl⟩ ⟨Nat.le_of_ble_eq_true rfl, Nat.le_of_ble_eq_true rfl⟩ (Nat.le_of_ble_eq_true rfl) dX12_rite_1 (fun μ1 e9 => c_X12_remembers _ μ1 e9) h (fun μ1 h => ?_) rfl
  refine xx_aload_n C 5 rfl 0 dX12_rite_4 rfl rfl ?_
  refine xx_aload_n C 6 rfl 0 dX12_rite_5 rfl rfl ?_
  refine xx_cVi (As := []) (st := [.ref (ad 0)]) (o := 0) C 9 rfl (by decide) (ceM_0 _ _ _) rfl rfl ca_X12_doesRite cv_X12_doesRite w_1399 rfl ⟨Nat.le_of_ble_eq_true rfl, Nat.le_of_ble_eq_true rfl⟩ ⟨Nat.le_of_ble_eq_true rfl, Nat.le_of_ble_eq_true rfl⟩ (Nat.le_of_ble_eq_true rfl) dX12_rite_6 (fun v6 μ6 e9 => c_X12_doesRite _ v6 μ6 e9) h (fun v6 μ6 h => ?_) rfl
  refine xx_cVi (As := [.int (iI v6)]) (st := []) (o := 0) C 12 rfl (by decide) (ceM_0 _ _ _) rfl rfl ca_X12_ends cv_X12_ends w_1252 rfl ⟨Nat.le_of_ble_eq_true rfl, Nat.le_of_ble_eq_true rfl⟩ ⟨Nat.le_of_ble_eq_true rfl, Nat.le_of_ble_eq_true rfl⟩ (Nat.le_of_ble_eq_true rfl) dX12_rite_9 (fun v9 μ9 e9 => c_X12_ends _ _ v9 μ9 e9) h (fun v9 μ9 h => ?_) rfl
  exact xx_iret C E rfl ⟨Nat.le_of_ble_eq_true rfl, Nat.le_of_ble_eq_true rfl⟩ dX12_rite_12 h

def f_X12_due (μ : mu_T) (a1 : Int) : Option Int :=
  rd_ μ 1 293 9 (fun v8 => bd_ (f_X12_in μ a1 0 (v8 - 1)) (fun v11 => eq_ v11 0
      (some (-11))
      (rd_ μ 1 293 (257 + a1) (fun v26 => some v26))))
set_option maxHeartbeats 4000000 in
set_option maxRecDepth 100000 in
theorem c_X12_due {G : gp_} {ad : Nat → Nat} (μ : mu_T) (a1 : Int) (a : Int) (h : f_X12_due μ a1 = some a) : mi_ yX12_due cX12_due 2 (some .int) ({ frames := 1, cells := 0, slots := 0, locals := 22 } : Room) G 9 ad (ceM G ad) [.ref (ad 0), .int (iI a1)] μ a μ := by
  refine mi_in (own := "UrnHeapModel") (lv := [(0, .ref (ad 0)), (1, .int (iI a1))]) (by decide) rfl rfl (Nat.le_of_ble_eq_true rfl) (fun X C E => ?_)
  unfold f_X12_due at h
  refine xx_iload_n C 1 rfl 1 dX12_due_0 rfl rfl ?_
  refine xx_iconst C 2 rfl dX12_due_1 ?_
  refine xx_aload_n C 3 rfl 0 dX12_due_2 rfl rfl ?_
  refine xx_getr (fi := 0) C 6 rfl (by decide) (ceM_0 _ _ _) rfl in_X12 (by decide) rfl rfl w_1171 dX12_due_3 ?_
  refine xx_bipush C 8 rfl dX12_due_6 (by decide) ?_
  refine xx_iaload C 9 rfl (by decide) (fun _ => rfl) (by decide) dX12_due_8 h (fun v8 h => ?_)
  refine xx_iconst C 10 rfl dX12_due_9 ?_
  refine xx_isub C 11 rfl dX12_due_10 ?_
  refine xx_cSip (As := [.int (iI a1), .int (iI 0), .int (iI (v8 - 1))]) (st := []) C 14 rfl  ca_X12_in cs_X12_in w_1272 rfl ⟨Nat.le_of_ble_eq_true rfl, Nat.le_of_ble_eq_true rfl⟩ ⟨Nat.le_of_ble_eq_true rfl, Nat.le_of_ble_eq_true rfl⟩ (Nat.le_of_ble_eq_true rfl) dX12_due_11 (fun v11 e9 => c_X12_in _ _ _ _ v11 e9) h (fun v11 h => ?_) rfl
  refine xx_if_eq (tgt := 30) C 17 rfl dX12_due_14 (by decide) h (fun h => ?_) (fun h => ?_)
  · refine xx_bipush C 32 rfl dX12_due_30 (by decide) ?_
    exact xx_iretp C E rfl ⟨Nat.le_of_ble_eq_true rfl, Nat.le_of_ble_eq_true rfl⟩ dX12_due_32 h
  · refine xx_aload_n C 18 rfl 0 dX12_due_17 rfl rfl ?_
    refine xx_getr (fi := 0) C 21 rfl (by decide) (ceM_0 _ _ _) rfl in_X12 (by decide) rfl rfl w_1171 dX12_due_18 ?_
    refine xx_sipush C 24 rfl dX12_due_21 (by decide) ?_
    refine xx_iload_n C 25 rfl 1 dX12_due_24 rfl rfl ?_
    refine xx_iadd C 26 rfl dX12_due_25 ?_
    refine xx_iaload C 27 rfl (by decide) (fun _ => rfl) (by decide) dX12_due_26 h (fun v26 h => ?_)
    refine xx_goto C 32 dX12_due_27 (by decide) ?_
    exact xx_iretp C E rfl ⟨Nat.le_of_ble_eq_true rfl, Nat.le_of_ble_eq_true rfl⟩ dX12_due_32 h

def f_X12_grey (μ : mu_T) (a1 : Int) : Option Int :=
  rd_ μ 1 293 8 (fun v8 => bd_ (f_X12_in μ a1 0 (v8 - 1)) (fun v11 => eq_ v11 0
      (some (-11))
      (rd_ μ 1 293 (233 + a1) (fun v26 => some v26))))
set_option maxHeartbeats 4000000 in
set_option maxRecDepth 100000 in
theorem c_X12_grey {G : gp_} {ad : Nat → Nat} (μ : mu_T) (a1 : Int) (a : Int) (h : f_X12_grey μ a1 = some a) : mi_ yX12_grey cX12_grey 2 (some .int) ({ frames := 1, cells := 0, slots := 0, locals := 22 } : Room) G 9 ad (ceM G ad) [.ref (ad 0), .int (iI a1)] μ a μ := by
  refine mi_in (own := "UrnHeapModel") (lv := [(0, .ref (ad 0)), (1, .int (iI a1))]) (by decide) rfl rfl (Nat.le_of_ble_eq_true rfl) (fun X C E => ?_)
  unfold f_X12_grey at h
  refine xx_iload_n C 1 rfl 1 dX12_grey_0 rfl rfl ?_
  refine xx_iconst C 2 rfl dX12_grey_1 ?_
  refine xx_aload_n C 3 rfl 0 dX12_grey_2 rfl rfl ?_
  refine xx_getr (fi := 0) C 6 rfl (by decide) (ceM_0 _ _ _) rfl in_X12 (by decide) rfl rfl w_1171 dX12_grey_3 ?_
  refine xx_bipush C 8 rfl dX12_grey_6 (by decide) ?_
  refine xx_iaload C 9 rfl (by decide) (fun _ => rfl) (by decide) dX12_grey_8 h (fun v8 h => ?_)
  refine xx_iconst C 10 rfl dX12_grey_9 ?_
  refine xx_isub C 11 rfl dX12_grey_10 ?_
  refine xx_cSip (As := [.int (iI a1), .int (iI 0), .int (iI (v8 - 1))]) (st := []) C 14 rfl  ca_X12_in cs_X12_in w_1272 rfl ⟨Nat.le_of_ble_eq_true rfl, Nat.le_of_ble_eq_true rfl⟩ ⟨Nat.le_of_ble_eq_true rfl, Nat.le_of_ble_eq_true rfl⟩ (Nat.le_of_ble_eq_true rfl) dX12_grey_11 (fun v11 e9 => c_X12_in _ _ _ _ v11 e9) h (fun v11 h => ?_) rfl
  refine xx_if_eq (tgt := 30) C 17 rfl dX12_grey_14 (by decide) h (fun h => ?_) (fun h => ?_)
  · refine xx_bipush C 32 rfl dX12_grey_30 (by decide) ?_
    exact xx_iretp C E rfl ⟨Nat.le_of_ble_eq_true rfl, Nat.le_of_ble_eq_true rfl⟩ dX12_grey_32 h
  · refine xx_aload_n C 18 rfl 0 dX12_grey_17 rfl rfl ?_
    refine xx_getr (fi := 0) C 21 rfl (by decide) (ceM_0 _ _ _) rfl in_X12 (by decide) rfl rfl w_1171 dX12_grey_18 ?_
    refine xx_sipush C 24 rfl dX12_grey_21 (by decide) ?_
    refine xx_iload_n C 25 rfl 1 dX12_grey_24 rfl rfl ?_
    refine xx_iadd C 26 rfl dX12_grey_25 ?_
    refine xx_iaload C 27 rfl (by decide) (fun _ => rfl) (by decide) dX12_grey_26 h (fun v26 h => ?_)
    refine xx_goto C 32 dX12_grey_27 (by decide) ?_
    exact xx_iretp C E rfl ⟨Nat.le_of_ble_eq_true rfl, Nat.le_of_ble_eq_true rfl⟩ dX12_grey_32 h

def f_X12_freed (μ : mu_T) (a1 : Int) : Option Int :=
  rd_ μ 1 293 10 (fun v8 => bd_ (f_X12_in μ a1 0 (v8 - 1)) (fun v11 => eq_ v11 0
      (some (-11))
      (rd_ μ 1 293 (281 + a1) (fun v26 => some v26))))
set_option maxHeartbeats 4000000 in
set_option maxRecDepth 100000 in
theorem c_X12_freed {G : gp_} {ad : Nat → Nat} (μ : mu_T) (a1 : Int) (a : Int) (h : f_X12_freed μ a1 = some a) : mi_ yX12_freed cX12_freed 2 (some .int) ({ frames := 1, cells := 0, slots := 0, locals := 22 } : Room) G 9 ad (ceM G ad) [.ref (ad 0), .int (iI a1)] μ a μ := by
  refine mi_in (own := "UrnHeapModel") (lv := [(0, .ref (ad 0)), (1, .int (iI a1))]) (by decide) rfl rfl (Nat.le_of_ble_eq_true rfl) (fun X C E => ?_)
  unfold f_X12_freed at h
  refine xx_iload_n C 1 rfl 1 dX12_freed_0 rfl rfl ?_
  refine xx_iconst C 2 rfl dX12_freed_1 ?_
  refine xx_aload_n C 3 rfl 0 dX12_freed_2 rfl rfl ?_
  refine xx_getr (fi := 0) C 6 rfl (by decide) (ceM_0 _ _ _) rfl in_X12 (by decide) rfl rfl w_1171 dX12_freed_3 ?_
  refine xx_bipush C 8 rfl dX12_freed_6 (by decide) ?_
  refine xx_iaload C 9 rfl (by decide) (fun _ => rfl) (by decide) dX12_freed_8 h (fun v8 h => ?_)
  refine xx_iconst C 10 rfl dX12_freed_9 ?_
  refine xx_isub C 11 rfl dX12_freed_10 ?_
  refine xx_cSip (As := [.int (iI a1), .int (iI 0), .int (iI (v8 - 1))]) (st := []) C 14 rfl  ca_X12_in cs_X12_in w_1272 rfl ⟨Nat.le_of_ble_eq_true rfl, Nat.le_of_ble_eq_true rfl⟩ ⟨Nat.le_of_ble_eq_true rfl, Nat.le_of_ble_eq_true rfl⟩ (Nat.le_of_ble_eq_true rfl) dX12_freed_11 (fun v11 e9 => c_X12_in _ _ _ _ v11 e9) h (fun v11 h => ?_) rfl
  refine xx_if_eq (tgt := 30) C 17 rfl dX12_freed_14 (by decide) h (fun h => ?_) (fun h => ?_)
  · refine xx_bipush C 32 rfl dX12_freed_30 (by decide) ?_
    exact xx_iretp C E rfl ⟨Nat.le_of_ble_eq_true rfl, Nat.le_of_ble_eq_true rfl⟩ dX12_freed_32 h
  · refine xx_aload_n C 18 rfl 0 dX12_freed_17 rfl rfl ?_
    refine xx_getr (fi := 0) C 21 rfl (by decide) (ceM_0 _ _ _) rfl in_X12 (by decide) rfl rfl w_1171 dX12_freed_18 ?_
    refine xx_sipush C 24 rfl dX12_freed_21 (by decide) ?_
    refine xx_iload_n C 25 rfl 1 dX12_freed_24 rfl rfl ?_
    refine xx_iadd C 26 rfl dX12_freed_25 ?_
    refine xx_iaload C 27 rfl (by decide) (fun _ => rfl) (by decide) dX12_freed_26 h (fun v26 h => ?_)
    refine xx_goto C 32 dX12_freed_27 (by decide) ?_
    exact xx_iretp C E rfl ⟨Nat.le_of_ble_eq_true rfl, Nat.le_of_ble_eq_true rfl⟩ dX12_freed_32 h

def f_X12_nears (μ : mu_T) (a1 : Int) (a2 : Int) : Option mu_T :=
  eq_ a1 (-15)
      (some μ)
      (rd_ μ 8 24 a1 (fun v12 => lt_ a2 v12
      (wr_ μ 8 24 a1 a2 (fun μ22 => some μ22))
      (some μ)))
set_option maxHeartbeats 4000000 in
set_option maxRecDepth 100000 in
theorem c_X12_nears {G : gp_} {ad : Nat → Nat} (μ : mu_T) (a1 : Int) (a2 : Int) (μr : mu_T) (h : f_X12_nears μ a1 a2 = some μr) : mv_ yX12_nears cX12_nears 3 ({ frames := 0, cells := 0, slots := 0, locals := 0 } : Room) G 9 ad (ceM G ad) [.ref (ad 0), .int (iI a1), .int (iI a2)] μ μr := by
  refine mv_in (own := "UrnHeapModel") (lv := [(0, .ref (ad 0)), (1, .int (iI a1)), (2, .int (iI a2))]) (by decide) rfl rfl (Nat.le_of_ble_eq_true rfl) (fun X C E => ?_)
  unfold f_X12_nears at h
  refine xx_iload_n C 1 rfl 1 dX12_nears_0 rfl rfl ?_
  refine xx_bipush C 3 rfl dX12_nears_1 (by decide) ?_
  refine xx_icmp_eq (tgt := 23) C 6 rfl dX12_nears_3 (by decide) h (fun h => ?_) (fun h => ?_)
  · exact xx_vret C E rfl ⟨Nat.le_of_ble_eq_true rfl, Nat.le_of_ble_eq_true rfl⟩ dX12_nears_23 h
  · refine xx_iload_n C 7 rfl 2 dX12_nears_6 rfl rfl ?_
    refine xx_aload_n C 8 rfl 0 dX12_nears_7 rfl rfl ?_
    refine xx_getr (fi := 9) C 11 rfl (by decide) (ceM_0 _ _ _) rfl in_X12 (by decide) rfl rfl w_1180 dX12_nears_8 ?_
    refine xx_iload_n C 12 rfl 1 dX12_nears_11 rfl rfl ?_
    refine xx_iaload C 13 rfl (by decide) (fun _ => rfl) (by decide) dX12_nears_12 h (fun v12 h => ?_)
    refine xx_icmp_ge (tgt := 23) C 16 rfl dX12_nears_13 (by decide) h (fun h => ?_) (fun h => ?_)
    · exact xx_vret C E rfl ⟨Nat.le_of_ble_eq_true rfl, Nat.le_of_ble_eq_true rfl⟩ dX12_nears_23 h
    · refine xx_aload_n C 17 rfl 0 dX12_nears_16 rfl rfl ?_
      refine xx_getr (fi := 9) C 20 rfl (by decide) (ceM_0 _ _ _) rfl in_X12 (by decide) rfl rfl w_1180 dX12_nears_17 ?_
      refine xx_iload_n C 21 rfl 1 dX12_nears_20 rfl rfl ?_
      refine xx_iload_n C 22 rfl 2 dX12_nears_21 rfl rfl ?_
      refine xx_iastore C 23 rfl (by decide) (fun _ => rfl) (by decide) dX12_nears_22 h (fun μ22 h => ?_)
      exact xx_vret C E rfl ⟨Nat.le_of_ble_eq_true rfl, Nat.le_of_ble_eq_true rfl⟩ dX12_nears_23 h

def f_X12_measures_L147 (J196 : mu_T → Option mu_T) (x4_137 : Int) : Nat → Int → mu_T → Option mu_T
  | 0, _, _ => none
  | fu147 + 1, x5_147, μ147 => lt_ x5_147 4
      (rd_ μ147 8 24 x4_137 (fun v159 => jn_ (φ := mu_T → Option mu_T) (fun μ190 => nm_ (x5_147 + 1) (fun n190 => (f_X12_measures_L147 J196 x4_137 fu147) n190 μ190))
      (fun J190 => lt_ v159 99
      (bd_ (f_X12_at μ147 x4_137 x5_147) (fun v174 => rd_ μ147 1 293 v174 (fun v177 => rd_ μ147 8 24 x4_137 (fun v184 => bd_ (f_X12_nears μ147 v177 (v184 + 1)) (fun μ187 => J190 μ187)))))
      (J190 μ147))))
      (J196 μ147)
def f_X12_measures_L137 (J202 : mu_T → Option mu_T) : Nat → Int → mu_T → Option mu_T
  | 0, _, _ => none
  | fu137 + 1, x4_137, μ137 => lt_ x4_137 24
      (jn_ (φ := mu_T → Option mu_T) (fun μ196 => nm_ (x4_137 + 1) (fun n196 => (f_X12_measures_L137 J202 fu137) n196 μ196))
      (fun J196 => f_X12_measures_L147 J196 x4_137 20000 0 μ137))
      (J202 μ137)
def f_X12_measures_L128  : Nat → Int → mu_T → Option mu_T
  | 0, _, _ => none
  | fu128 + 1, x3_128, μ128 => lt_ x3_128 24
      (jn_ (φ := mu_T → Option mu_T) (fun μ202 => nm_ (x3_128 + 1) (fun n202 => (f_X12_measures_L128 fu128) n202 μ202))
      (fun J202 => f_X12_measures_L137 J202 20000 0 μ128))
      (some μ128)
def f_X12_measures_L91 (J126 : mu_T → Option mu_T) (a2 : Int) : Nat → Int → mu_T → Option mu_T
  | 0, _, _ => none
  | fu91 + 1, x3_91, μ91 => lt_ x3_91 24
      (jn_ (φ := mu_T → Option mu_T) (fun μ120 => nm_ (x3_91 + 1) (fun n120 => (f_X12_measures_L91 J126 a2 fu91) n120 μ120))
      (fun J120 => eq_ a2 0
      (J120 μ91)
      (rd_ μ91 1 293 (65 + x3_91) (fun v109 => eq_ v109 1
      (bd_ (f_X12_nears μ91 x3_91 0) (fun μ117 => J120 μ117))
      (J120 μ91)))))
      (J126 μ91)
def f_X12_measures_L57 (J89 : mu_T → Option mu_T) : Nat → Int → mu_T → Option mu_T
  | 0, _, _ => none
  | fu57 + 1, x3_57, μ57 => rd_ μ57 1 293 9 (fun v64 => lt_ x3_57 v64
      (rd_ μ57 1 293 (257 + x3_57) (fun v78 => bd_ (f_X12_nears μ57 v78 0) (fun μ80 => nm_ (x3_57 + 1) (fun n83 => (f_X12_measures_L57 J89 fu57) n83 μ80))))
      (J89 μ57))
def f_X12_measures_L24 (J55 : mu_T → Option mu_T) (a1 : Int) : Nat → Int → mu_T → Option mu_T
  | 0, _, _ => none
  | fu24 + 1, x3_24, μ24 => lt_ x3_24 6
      (jn_ (φ := mu_T → Option mu_T) (fun μ49 => nm_ (x3_24 + 1) (fun n49 => (f_X12_measures_L24 J55 a1 fu24) n49 μ49))
      (fun J49 => eq_ x3_24 a1
      (J49 μ24)
      (rd_ μ24 1 293 (11 + x3_24) (fun v44 => bd_ (f_X12_nears μ24 v44 0) (fun μ46 => J49 μ46)))))
      (J55 μ24)
def f_X12_measures_L2 (J22 : mu_T → Option mu_T) : Nat → Int → mu_T → Option mu_T
  | 0, _, _ => none
  | fu2 + 1, x3_2, μ2 => lt_ x3_2 24
      (wr_ μ2 8 24 x3_2 99 (fun μ15 => nm_ (x3_2 + 1) (fun n16 => (f_X12_measures_L2 J22 fu2) n16 μ15)))
      (J22 μ2)
def f_X12_measures (μ : mu_T) (a1 : Int) (a2 : Int) : Option mu_T :=
  jn_ (φ := mu_T → Option mu_T) (fun μ22 => jn_ (φ := mu_T → Option mu_T) (fun μ55 => jn_ (φ := mu_T → Option mu_T) (fun μ89 => jn_ (φ := mu_T → Option mu_T) (fun μ126 => f_X12_measures_L128 20000 0 μ126)
      (fun J126 => f_X12_measures_L91 J126 a2 20000 0 μ89))
      (fun J89 => f_X12_measures_L57 J89 20000 0 μ55))
      (fun J55 => f_X12_measures_L24 J55 a1 20000 0 μ22))
      (fun J22 => f_X12_measures_L2 J22 20000 0 μ)
set_option maxHeartbeats 4000000 in
set_option maxRecDepth 100000 in
theorem c_X12_measures {G : gp_} {ad : Nat → Nat} (μ : mu_T) (a1 : Int) (a2 : Int) (μr : mu_T) (h : f_X12_measures μ a1 a2 = some μr) : mv_ yX12_measures cX12_measures 6 ({ frames := 1, cells := 0, slots := 0, locals := 22 } : Room) G 9 ad (ceM G ad) [.ref (ad 0), .int (iI a1), .int (iI a2)] μ μr := by
  refine mv_in (own := "UrnHeapModel") (lv := [(0, .ref (ad 0)), (1, .int (iI a1)), (2, .int (iI a2))]) (by decide) rfl rfl (Nat.le_of_ble_eq_true rfl) (fun X C E => ?_)
  unfold f_X12_measures at h
  refine xx_iconst C 1 rfl dX12_measures_0 ?_
  refine xx_istore_n (lv1 := [(3, .int (iI 0)), (0, .ref (ad 0)), (1, .int (iI a1)), (2, .int (iI a2))]) C 2 rfl (by decide) dX12_measures_1 rfl rfl ?_
  refine jn_r (fun J => ∀ (μ22 : mu_T), J μ22 = some μr → wx_ G X 9 ad (ceM G ad) μ22 0 0 22 [(0, .ref (ad 0)), (1, .int (iI a1)), (2, .int (iI a2))] []) h (fun μ22 h => ?_) (fun J22 K22 h => ?_)
  · refine xx_iconst C 23 rfl dX12_measures_22 ?_
    refine xx_istore_n (lv1 := [(3, .int (iI 0)), (0, .ref (ad 0)), (1, .int (iI a1)), (2, .int (iI a2))]) C 24 rfl (by decide) dX12_measures_23 rfl rfl ?_
    refine jn_r (fun J => ∀ (μ55 : mu_T), J μ55 = some μr → wx_ G X 9 ad (ceM G ad) μ55 0 0 55 [(0, .ref (ad 0)), (2, .int (iI a2))] []) h (fun μ55 h => ?_) (fun J55 K55 h => ?_)
    · refine xx_iconst C 56 rfl dX12_measures_55 ?_
      refine xx_istore_n (lv1 := [(3, .int (iI 0)), (0, .ref (ad 0)), (2, .int (iI a2))]) C 57 rfl (by decide) dX12_measures_56 rfl rfl ?_
      refine jn_r (fun J => ∀ (μ89 : mu_T), J μ89 = some μr → wx_ G X 9 ad (ceM G ad) μ89 0 0 89 [(0, .ref (ad 0)), (2, .int (iI a2))] []) h (fun μ89 h => ?_) (fun J89 K89 h => ?_)
      · refine xx_iconst C 90 rfl dX12_measures_89 ?_
        refine xx_istore_n (lv1 := [(3, .int (iI 0)), (0, .ref (ad 0)), (2, .int (iI a2))]) C 91 rfl (by decide) dX12_measures_90 rfl rfl ?_
        refine jn_r (fun J => ∀ (μ126 : mu_T), J μ126 = some μr → wx_ G X 9 ad (ceM G ad) μ126 0 0 126 [(0, .ref (ad 0))] []) h (fun μ126 h => ?_) (fun J126 K126 h => ?_)
        · refine xx_iconst C 127 rfl dX12_measures_126 ?_
          refine xx_istore_n (lv1 := [(3, .int (iI 0)), (0, .ref (ad 0))]) C 128 rfl (by decide) dX12_measures_127 rfl rfl ?_
          have L128 : ∀ (fu128 : Nat) (x3_128 : Int) (μ128 : mu_T), f_X12_measures_L128 fu128 x3_128 μ128 = some μr → wx_ G X 9 ad (ceM G ad) μ128 0 0 128 [(0, .ref (ad 0)), (3, .int (iI x3_128))] [] := by
            intro fu128
            induction fu128 with
            | zero => intro x3_128 μ128 h; exact nn_ h
            | succ fu128 K128 =>
              intro x3_128 μ128 h
              rw [f_X12_measures_L128] at h
              generalize f_X12_measures_L128 fu128 = R128 at K128 h
              refine xx_iload_n C 129 rfl 1 dX12_measures_128 rfl rfl ?_
              refine xx_bipush C 131 rfl dX12_measures_129 (by decide) ?_
              refine xx_icmp_ge (tgt := 208) C 134 rfl dX12_measures_131 (by decide) h (fun h => ?_) (fun h => ?_)
              · exact xx_vret C E rfl ⟨Nat.le_of_ble_eq_true rfl, Nat.le_of_ble_eq_true rfl⟩ dX12_measures_208 h
              · refine xx_iconst C 135 rfl dX12_measures_134 ?_
                refine xx_istore (lv1 := [(4, .int (iI 0)), (0, .ref (ad 0)), (3, .int (iI x3_128))]) C 137 rfl (by decide) dX12_measures_135 rfl ?_
                refine jn_r (fun J => ∀ (μ202 : mu_T), J μ202 = some μr → wx_ G X 9 ad (ceM G ad) μ202 0 0 202 [(0, .ref (ad 0)), (3, .int (iI x3_128))] []) h (fun μ202 h => ?_) (fun J202 K202 h => ?_)
                · refine xx_iincn C 205 rfl 1 (by decide) dX12_measures_202 rfl h (fun n202 h => ?_)
                  refine xx_lv (lv1 := [(3, .int (iI n202)), (0, .ref (ad 0))]) rfl ?_
                  refine xx_goto C 128 dX12_measures_205 (by decide) ?_
                  refine xx_sub [1, 0] rfl ?_
                  exact K128 n202 μ202 h
                · have L137 : ∀ (fu137 : Nat) (x4_137 : Int) (μ137 : mu_T), f_X12_measures_L137 J202 fu137 x4_137 μ137 = some μr → wx_ G X 9 ad (ceM G ad) μ137 0 0 137 [(0, .ref (ad 0)), (3, .int (iI x3_128)), (4, .int (iI x4_137))] [] := by
                    intro fu137
                    induction fu137 with
                    | zero => intro x4_137 μ137 h; exact nn_ h
                    | succ fu137 K137 =>
                      intro x4_137 μ137 h
                      rw [f_X12_measures_L137] at h
                      generalize f_X12_measures_L137 J202 fu137 = R137 at K137 h
                      refine xx_iload C 139 rfl 2 dX12_measures_137 rfl ?_
                      refine xx_bipush C 141 rfl dX12_measures_139 (by decide) ?_
                      refine xx_icmp_ge (tgt := 202) C 144 rfl dX12_measures_141 (by decide) h (fun h => ?_) (fun h => ?_)
                      · refine xx_sub [0, 1] rfl ?_
                        exact K202 μ137 h
                      · refine xx_iconst C 145 rfl dX12_measures_144 ?_
                        refine xx_istore (lv1 := [(5, .int (iI 0)), (0, .ref (ad 0)), (3, .int (iI x3_128)), (4, .int (iI x4_137))]) C 147 rfl (by decide) dX12_measures_145 rfl ?_
                        refine jn_r (fun J => ∀ (μ196 : mu_T), J μ196 = some μr → wx_ G X 9 ad (ceM G ad) μ196 0 0 196 [(0, .ref (ad 0)), (3, .int (iI x3_128)), (4, .int (iI x4_137))] []) h (fun μ196 h => ?_) (fun J196 K196 h => ?_)
                        · refine xx_iincn C 199 rfl 2 (by decide) dX12_measures_196 rfl h (fun n196 h => ?_)
                          refine xx_lv (lv1 := [(4, .int (iI n196)), (0, .ref (ad 0)), (3, .int (iI x3_128))]) rfl ?_
                          refine xx_goto C 137 dX12_measures_199 (by decide) ?_
                          refine xx_sub [1, 2, 0] rfl ?_
                          exact K137 n196 μ196 h
                        · have L147 : ∀ (fu147 : Nat) (x5_147 : Int) (μ147 : mu_T), f_X12_measures_L147 J196 x4_137 fu147 x5_147 μ147 = some μr → wx_ G X 9 ad (ceM G ad) μ147 0 0 147 [(0, .ref (ad 0)), (3, .int (iI x3_128)), (4, .int (iI x4_137)), (5, .int (iI x5_147))] [] := by
                            intro fu147
                            induction fu147 with
                            | zero => intro x5_147 μ147 h; exact nn_ h
                            | succ fu147 K147 =>
                              intro x5_147 μ147 h
                              rw [f_X12_measures_L147] at h
                              generalize f_X12_measures_L147 J196 x4_137 fu147 = R147 at K147 h
                              refine xx_iload C 149 rfl 3 dX12_measures_147 rfl ?_
                              refine xx_iconst C 150 rfl dX12_measures_149 ?_
                              refine xx_icmp_ge (tgt := 196) C 153 rfl dX12_measures_150 (by decide) h (fun h => ?_) (fun h => ?_)
                              · refine xx_sub [0, 1, 2] rfl ?_
                                exact K196 μ147 h
                              · refine xx_aload_n C 154 rfl 0 dX12_measures_153 rfl rfl ?_
                                refine xx_getr (fi := 9) C 157 rfl (by decide) (ceM_0 _ _ _) rfl in_X12 (by decide) rfl rfl w_1180 dX12_measures_154 ?_
                                refine xx_iload C 159 rfl 2 dX12_measures_157 rfl ?_
                                refine xx_iaload C 160 rfl (by decide) (fun _ => rfl) (by decide) dX12_measures_159 h (fun v159 h => ?_)
                                refine xx_bipush C 162 rfl dX12_measures_160 (by decide) ?_
                                refine jn_r (fun J => ∀ (μ190 : mu_T), J μ190 = some μr → wx_ G X 9 ad (ceM G ad) μ190 0 0 190 [(0, .ref (ad 0)), (3, .int (iI x3_128)), (4, .int (iI x4_137)), (5, .int (iI x5_147))] []) h (fun μ190 h => ?_) (fun J190 K190 h => ?_)
                                · refine xx_iincn C 193 rfl 3 (by decide) dX12_measures_190 rfl h (fun n190 h => ?_)
                                  refine xx_lv (lv1 := [(5, .int (iI n190)), (0, .ref (ad 0)), (3, .int (iI x3_128)), (4, .int (iI x4_137))]) rfl ?_
                                  refine xx_goto C 147 dX12_measures_193 (by decide) ?_
                                  refine xx_sub [1, 2, 3, 0] rfl ?_
                                  exact K147 n190 μ190 h
                                · refine xx_icmp_ge (tgt := 190) C 165 rfl dX12_measures_162 (by decide) h (fun h => ?_) (fun h => ?_)
                                  · exact K190 μ147 h
                                  · refine xx_aload_n C 166 rfl 0 dX12_measures_165 rfl rfl ?_
                                    refine xx_aload_n C 167 rfl 0 dX12_measures_166 rfl rfl ?_
                                    refine xx_getr (fi := 0) C 170 rfl (by decide) (ceM_0 _ _ _) rfl in_X12 (by decide) rfl rfl w_1171 dX12_measures_167 ?_
                                    refine xx_iload C 172 rfl 2 dX12_measures_170 rfl ?_
                                    refine xx_iload C 174 rfl 3 dX12_measures_172 rfl ?_
                                    refine xx_cSip (As := [.int (iI x4_137), .int (iI x5_147)]) (st := [.ref (ad 1), .ref (ad 0)]) C 177 rfl  ca_X12_at cs_X12_at w_1168 rfl ⟨Nat.le_of_ble_eq_true rfl, Nat.le_of_ble_eq_true rfl⟩ ⟨Nat.le_of_ble_eq_true rfl, Nat.le_of_ble_eq_true rfl⟩ (Nat.le_of_ble_eq_true rfl) dX12_measures_174 (fun v174 e9 => c_X12_at _ _ _ v174 e9) h (fun v174 h => ?_) rfl
                                    refine xx_iaload C 178 rfl (by decide) (fun _ => rfl) (by decide) dX12_measures_177 h (fun v177 h => ?_)
                                    refine xx_aload_n C 179 rfl 0 dX12_measures_178 rfl rfl ?_
                                    refine xx_getr (fi := 9) C 182 rfl (by decide) (ceM_0 _ _ _) rfl in_X12 (by decide) rfl rfl w_1180 dX12_measures_179 ?_
                                    refine xx_iload C 184 rfl 2 dX12_measures_182 rfl ?_
                                    refine xx_iaload C 185 rfl (by decide) (fun _ => rfl) (by decide) dX12_measures_184 h (fun v184 h => ?_)
                                    refine xx_iconst C 186 rfl dX12_measures_185 ?_
                                    refine xx_iadd C 187 rfl dX12_measures_186 ?_
                                    refine xx_cVv (As := [.int (iI v177), .int (iI (v184 + 1))]) (st := []) (o := 0) C 190 rfl (by decide) (ceM_0 _ _ _) rfl rfl ca_X12_nears cv_X12_nears w_1423 rfl ⟨Nat.le_of_ble_eq_true rfl, Nat.le_of_ble_eq_true rfl⟩ ⟨Nat.le_of_ble_eq_true rfl, Nat.le_of_ble_eq_true rfl⟩ (Nat.le_of_ble_eq_true rfl) dX12_measures_187 (fun μ187 e9 => c_X12_nears _ _ _ μ187 e9) h (fun μ187 h => ?_) rfl
                                    exact K190 μ187 h
                          refine xx_sub [1, 2, 3, 0] rfl ?_
                          exact L147 _ _ _ h
                  refine xx_sub [1, 2, 0] rfl ?_
                  exact L137 _ _ _ h
          refine xx_sub [1, 0] rfl ?_
          exact L128 _ _ _ h
        · have L91 : ∀ (fu91 : Nat) (x3_91 : Int) (μ91 : mu_T), f_X12_measures_L91 J126 a2 fu91 x3_91 μ91 = some μr → wx_ G X 9 ad (ceM G ad) μ91 0 0 91 [(0, .ref (ad 0)), (2, .int (iI a2)), (3, .int (iI x3_91))] [] := by
            intro fu91
            induction fu91 with
            | zero => intro x3_91 μ91 h; exact nn_ h
            | succ fu91 K91 =>
              intro x3_91 μ91 h
              rw [f_X12_measures_L91] at h
              generalize f_X12_measures_L91 J126 a2 fu91 = R91 at K91 h
              refine xx_iload_n C 92 rfl 2 dX12_measures_91 rfl rfl ?_
              refine xx_bipush C 94 rfl dX12_measures_92 (by decide) ?_
              refine xx_icmp_ge (tgt := 126) C 97 rfl dX12_measures_94 (by decide) h (fun h => ?_) (fun h => ?_)
              · refine xx_sub [0] rfl ?_
                exact K126 μ91 h
              · refine xx_iload_n C 98 rfl 1 dX12_measures_97 rfl rfl ?_
                refine jn_r (fun J => ∀ (μ120 : mu_T), J μ120 = some μr → wx_ G X 9 ad (ceM G ad) μ120 0 0 120 [(0, .ref (ad 0)), (2, .int (iI a2)), (3, .int (iI x3_91))] []) h (fun μ120 h => ?_) (fun J120 K120 h => ?_)
                · refine xx_iincn C 123 rfl 2 (by decide) dX12_measures_120 rfl h (fun n120 h => ?_)
                  refine xx_lv (lv1 := [(3, .int (iI n120)), (0, .ref (ad 0)), (2, .int (iI a2))]) rfl ?_
                  refine xx_goto C 91 dX12_measures_123 (by decide) ?_
                  refine xx_sub [1, 2, 0] rfl ?_
                  exact K91 n120 μ120 h
                · refine xx_if_eq (tgt := 120) C 101 rfl dX12_measures_98 (by decide) h (fun h => ?_) (fun h => ?_)
                  · exact K120 μ91 h
                  · refine xx_aload_n C 102 rfl 0 dX12_measures_101 rfl rfl ?_
                    refine xx_getr (fi := 0) C 105 rfl (by decide) (ceM_0 _ _ _) rfl in_X12 (by decide) rfl rfl w_1171 dX12_measures_102 ?_
                    refine xx_bipush C 107 rfl dX12_measures_105 (by decide) ?_
                    refine xx_iload_n C 108 rfl 2 dX12_measures_107 rfl rfl ?_
                    refine xx_iadd C 109 rfl dX12_measures_108 ?_
                    refine xx_iaload C 110 rfl (by decide) (fun _ => rfl) (by decide) dX12_measures_109 h (fun v109 h => ?_)
                    refine xx_iconst C 111 rfl dX12_measures_110 ?_
                    refine xx_icmp_ne (tgt := 120) C 114 rfl dX12_measures_111 (by decide) h (fun h => ?_) (fun h => ?_)
                    · exact K120 μ91 h
                    · refine xx_aload_n C 115 rfl 0 dX12_measures_114 rfl rfl ?_
                      refine xx_iload_n C 116 rfl 2 dX12_measures_115 rfl rfl ?_
                      refine xx_iconst C 117 rfl dX12_measures_116 ?_
                      refine xx_cVv (As := [.int (iI x3_91), .int (iI 0)]) (st := []) (o := 0) C 120 rfl (by decide) (ceM_0 _ _ _) rfl rfl ca_X12_nears cv_X12_nears w_1423 rfl ⟨Nat.le_of_ble_eq_true rfl, Nat.le_of_ble_eq_true rfl⟩ ⟨Nat.le_of_ble_eq_true rfl, Nat.le_of_ble_eq_true rfl⟩ (Nat.le_of_ble_eq_true rfl) dX12_measures_117 (fun μ117 e9 => c_X12_nears _ _ _ μ117 e9) h (fun μ117 h => ?_) rfl
                      exact K120 μ117 h
          refine xx_sub [1, 2, 0] rfl ?_
          exact L91 _ _ _ h
      · have L57 : ∀ (fu57 : Nat) (x3_57 : Int) (μ57 : mu_T), f_X12_measures_L57 J89 fu57 x3_57 μ57 = some μr → wx_ G X 9 ad (ceM G ad) μ57 0 0 57 [(0, .ref (ad 0)), (2, .int (iI a2)), (3, .int (iI x3_57))] [] := by
          intro fu57
          induction fu57 with
          | zero => intro x3_57 μ57 h; exact nn_ h
          | succ fu57 K57 =>
            intro x3_57 μ57 h
            rw [f_X12_measures_L57] at h
            generalize f_X12_measures_L57 J89 fu57 = R57 at K57 h
            refine xx_iload_n C 58 rfl 2 dX12_measures_57 rfl rfl ?_
            refine xx_aload_n C 59 rfl 0 dX12_measures_58 rfl rfl ?_
            refine xx_getr (fi := 0) C 62 rfl (by decide) (ceM_0 _ _ _) rfl in_X12 (by decide) rfl rfl w_1171 dX12_measures_59 ?_
            refine xx_bipush C 64 rfl dX12_measures_62 (by decide) ?_
            refine xx_iaload C 65 rfl (by decide) (fun _ => rfl) (by decide) dX12_measures_64 h (fun v64 h => ?_)
            refine xx_icmp_ge (tgt := 89) C 68 rfl dX12_measures_65 (by decide) h (fun h => ?_) (fun h => ?_)
            · refine xx_sub [0, 1] rfl ?_
              exact K89 μ57 h
            · refine xx_aload_n C 69 rfl 0 dX12_measures_68 rfl rfl ?_
              refine xx_aload_n C 70 rfl 0 dX12_measures_69 rfl rfl ?_
              refine xx_getr (fi := 0) C 73 rfl (by decide) (ceM_0 _ _ _) rfl in_X12 (by decide) rfl rfl w_1171 dX12_measures_70 ?_
              refine xx_sipush C 76 rfl dX12_measures_73 (by decide) ?_
              refine xx_iload_n C 77 rfl 2 dX12_measures_76 rfl rfl ?_
              refine xx_iadd C 78 rfl dX12_measures_77 ?_
              refine xx_iaload C 79 rfl (by decide) (fun _ => rfl) (by decide) dX12_measures_78 h (fun v78 h => ?_)
              refine xx_iconst C 80 rfl dX12_measures_79 ?_
              refine xx_cVv (As := [.int (iI v78), .int (iI 0)]) (st := []) (o := 0) C 83 rfl (by decide) (ceM_0 _ _ _) rfl rfl ca_X12_nears cv_X12_nears w_1423 rfl ⟨Nat.le_of_ble_eq_true rfl, Nat.le_of_ble_eq_true rfl⟩ ⟨Nat.le_of_ble_eq_true rfl, Nat.le_of_ble_eq_true rfl⟩ (Nat.le_of_ble_eq_true rfl) dX12_measures_80 (fun μ80 e9 => c_X12_nears _ _ _ μ80 e9) h (fun μ80 h => ?_) rfl
              refine xx_iincn C 86 rfl 2 (by decide) dX12_measures_83 rfl h (fun n83 h => ?_)
              refine xx_lv (lv1 := [(3, .int (iI n83)), (0, .ref (ad 0)), (2, .int (iI a2))]) rfl ?_
              refine xx_goto C 57 dX12_measures_86 (by decide) ?_
              refine xx_sub [1, 2, 0] rfl ?_
              exact K57 n83 μ80 h
        refine xx_sub [1, 2, 0] rfl ?_
        exact L57 _ _ _ h
    · have L24 : ∀ (fu24 : Nat) (x3_24 : Int) (μ24 : mu_T), f_X12_measures_L24 J55 a1 fu24 x3_24 μ24 = some μr → wx_ G X 9 ad (ceM G ad) μ24 0 0 24 [(0, .ref (ad 0)), (1, .int (iI a1)), (2, .int (iI a2)), (3, .int (iI x3_24))] [] := by
        intro fu24
        induction fu24 with
        | zero => intro x3_24 μ24 h; exact nn_ h
        | succ fu24 K24 =>
          intro x3_24 μ24 h
          rw [f_X12_measures_L24] at h
          generalize f_X12_measures_L24 J55 a1 fu24 = R24 at K24 h
          refine xx_iload_n C 25 rfl 3 dX12_measures_24 rfl rfl ?_
          refine xx_bipush C 27 rfl dX12_measures_25 (by decide) ?_
          refine xx_icmp_ge (tgt := 55) C 30 rfl dX12_measures_27 (by decide) h (fun h => ?_) (fun h => ?_)
          · refine xx_sub [0, 2] rfl ?_
            exact K55 μ24 h
          · refine xx_iload_n C 31 rfl 3 dX12_measures_30 rfl rfl ?_
            refine xx_iload_n C 32 rfl 1 dX12_measures_31 rfl rfl ?_
            refine jn_r (fun J => ∀ (μ49 : mu_T), J μ49 = some μr → wx_ G X 9 ad (ceM G ad) μ49 0 0 49 [(0, .ref (ad 0)), (1, .int (iI a1)), (2, .int (iI a2)), (3, .int (iI x3_24))] []) h (fun μ49 h => ?_) (fun J49 K49 h => ?_)
            · refine xx_iincn C 52 rfl 3 (by decide) dX12_measures_49 rfl h (fun n49 h => ?_)
              refine xx_lv (lv1 := [(3, .int (iI n49)), (0, .ref (ad 0)), (1, .int (iI a1)), (2, .int (iI a2))]) rfl ?_
              refine xx_goto C 24 dX12_measures_52 (by decide) ?_
              refine xx_sub [1, 2, 3, 0] rfl ?_
              exact K24 n49 μ49 h
            · refine xx_icmp_eq (tgt := 49) C 35 rfl dX12_measures_32 (by decide) h (fun h => ?_) (fun h => ?_)
              · exact K49 μ24 h
              · refine xx_aload_n C 36 rfl 0 dX12_measures_35 rfl rfl ?_
                refine xx_aload_n C 37 rfl 0 dX12_measures_36 rfl rfl ?_
                refine xx_getr (fi := 0) C 40 rfl (by decide) (ceM_0 _ _ _) rfl in_X12 (by decide) rfl rfl w_1171 dX12_measures_37 ?_
                refine xx_bipush C 42 rfl dX12_measures_40 (by decide) ?_
                refine xx_iload_n C 43 rfl 3 dX12_measures_42 rfl rfl ?_
                refine xx_iadd C 44 rfl dX12_measures_43 ?_
                refine xx_iaload C 45 rfl (by decide) (fun _ => rfl) (by decide) dX12_measures_44 h (fun v44 h => ?_)
                refine xx_iconst C 46 rfl dX12_measures_45 ?_
                refine xx_cVv (As := [.int (iI v44), .int (iI 0)]) (st := []) (o := 0) C 49 rfl (by decide) (ceM_0 _ _ _) rfl rfl ca_X12_nears cv_X12_nears w_1423 rfl ⟨Nat.le_of_ble_eq_true rfl, Nat.le_of_ble_eq_true rfl⟩ ⟨Nat.le_of_ble_eq_true rfl, Nat.le_of_ble_eq_true rfl⟩ (Nat.le_of_ble_eq_true rfl) dX12_measures_46 (fun μ46 e9 => c_X12_nears _ _ _ μ46 e9) h (fun μ46 h => ?_) rfl
                exact K49 μ46 h
      refine xx_sub [1, 2, 3, 0] rfl ?_
      exact L24 _ _ _ h
  · have L2 : ∀ (fu2 : Nat) (x3_2 : Int) (μ2 : mu_T), f_X12_measures_L2 J22 fu2 x3_2 μ2 = some μr → wx_ G X 9 ad (ceM G ad) μ2 0 0 2 [(0, .ref (ad 0)), (1, .int (iI a1)), (2, .int (iI a2)), (3, .int (iI x3_2))] [] := by
      intro fu2
      induction fu2 with
      | zero => intro x3_2 μ2 h; exact nn_ h
      | succ fu2 K2 =>
        intro x3_2 μ2 h
        rw [f_X12_measures_L2] at h
        generalize f_X12_measures_L2 J22 fu2 = R2 at K2 h
        refine xx_iload_n C 3 rfl 3 dX12_measures_2 rfl rfl ?_
        refine xx_bipush C 5 rfl dX12_measures_3 (by decide) ?_
        refine xx_icmp_ge (tgt := 22) C 8 rfl dX12_measures_5 (by decide) h (fun h => ?_) (fun h => ?_)
        · refine xx_sub [0, 1, 2] rfl ?_
          exact K22 μ2 h
        · refine xx_aload_n C 9 rfl 0 dX12_measures_8 rfl rfl ?_
          refine xx_getr (fi := 9) C 12 rfl (by decide) (ceM_0 _ _ _) rfl in_X12 (by decide) rfl rfl w_1180 dX12_measures_9 ?_
          refine xx_iload_n C 13 rfl 3 dX12_measures_12 rfl rfl ?_
          refine xx_bipush C 15 rfl dX12_measures_13 (by decide) ?_
          refine xx_iastore C 16 rfl (by decide) (fun _ => rfl) (by decide) dX12_measures_15 h (fun μ15 h => ?_)
          refine xx_iincn C 19 rfl 3 (by decide) dX12_measures_16 rfl h (fun n16 h => ?_)
          refine xx_lv (lv1 := [(3, .int (iI n16)), (0, .ref (ad 0)), (1, .int (iI a1)), (2, .int (iI a2))]) rfl ?_
          refine xx_goto C 2 dX12_measures_19 (by decide) ?_
          refine xx_sub [1, 2, 3, 0] rfl ?_
          exact K2 n16 μ15 h
    refine xx_sub [1, 2, 3, 0] rfl ?_
    exact L2 _ _ _ h

def f_X12_reached_L4 (μ : mu_T) : Nat → Int → Int → Option Int
  | 0, _, _ => none
  | fu4 + 1, x1_4, x2_4 => lt_ x2_4 24
      (rd_ μ 8 24 x2_4 (fun v16 => jn_ (φ := Int → Option Int) (fun s0_29 => nm_ ((or_ x1_4 s0_29)) (fun n30 => nm_ (x2_4 + 1) (fun n31 => (f_X12_reached_L4 μ fu4) n30 n31)))
      (fun J29 => lt_ v16 99
      (J29 (sl_ 1 x2_4))
      (J29 0))))
      (some x1_4)
def f_X12_reached (μ : mu_T)  : Option Int :=
  f_X12_reached_L4 μ 20000 0 0
set_option maxHeartbeats 4000000 in
set_option maxRecDepth 100000 in
theorem c_X12_reached {G : gp_} {ad : Nat → Nat} (μ : mu_T)  (a : Int) (h : f_X12_reached μ  = some a) : mi_ yX12_reached cX12_reached 3 (some .int) ({ frames := 0, cells := 0, slots := 0, locals := 0 } : Room) G 9 ad (ceM G ad) [.ref (ad 0)] μ a μ := by
  refine mi_in (own := "UrnHeapModel") (lv := [(0, .ref (ad 0))]) (by decide) rfl rfl (Nat.le_of_ble_eq_true rfl) (fun X C E => ?_)
  unfold f_X12_reached at h
  refine xx_iconst C 1 rfl dX12_reached_0 ?_
  refine xx_istore_n (lv1 := [(1, .int (iI 0)), (0, .ref (ad 0))]) C 2 rfl (by decide) dX12_reached_1 rfl rfl ?_
  refine xx_iconst C 3 rfl dX12_reached_2 ?_
  refine xx_istore_n (lv1 := [(2, .int (iI 0)), (1, .int (iI 0)), (0, .ref (ad 0))]) C 4 rfl (by decide) dX12_reached_3 rfl rfl ?_
  have L4 : ∀ (fu4 : Nat) (x1_4 : Int) (x2_4 : Int), f_X12_reached_L4 μ fu4 x1_4 x2_4 = some a → wx_ G X 9 ad (ceM G ad) μ 0 0 4 [(0, .ref (ad 0)), (1, .int (iI x1_4)), (2, .int (iI x2_4))] [] := by
    intro fu4
    induction fu4 with
    | zero => intro x1_4 x2_4 h; exact nn_ h
    | succ fu4 K4 =>
      intro x1_4 x2_4 h
      rw [f_X12_reached_L4] at h
      generalize f_X12_reached_L4 μ fu4 = R4 at K4 h
      refine xx_iload_n C 5 rfl 2 dX12_reached_4 rfl rfl ?_
      refine xx_bipush C 7 rfl dX12_reached_5 (by decide) ?_
      refine xx_icmp_ge (tgt := 37) C 10 rfl dX12_reached_7 (by decide) h (fun h => ?_) (fun h => ?_)
      · refine xx_iload_n C 38 rfl 1 dX12_reached_37 rfl rfl ?_
        exact xx_iretp C E rfl ⟨Nat.le_of_ble_eq_true rfl, Nat.le_of_ble_eq_true rfl⟩ dX12_reached_38 h
      · refine xx_iload_n C 11 rfl 1 dX12_reached_10 rfl rfl ?_
        refine xx_aload_n C 12 rfl 0 dX12_reached_11 rfl rfl ?_
        refine xx_getr (fi := 9) C 15 rfl (by decide) (ceM_0 _ _ _) rfl in_X12 (by decide) rfl rfl w_1180 dX12_reached_12 ?_
        refine xx_iload_n C 16 rfl 2 dX12_reached_15 rfl rfl ?_
        refine xx_iaload C 17 rfl (by decide) (fun _ => rfl) (by decide) dX12_reached_16 h (fun v16 h => ?_)
        refine xx_bipush C 19 rfl dX12_reached_17 (by decide) ?_
        refine jn_r (fun J => ∀ (s0_29 : Int), J s0_29 = some a → wx_ G X 9 ad (ceM G ad) μ 0 0 29 [(0, .ref (ad 0)), (2, .int (iI x2_4))] [.int (iI s0_29), .int (iI x1_4)]) h (fun s0_29 h => ?_) (fun J29 K29 h => ?_)
        · refine xx_ior C 30 rfl dX12_reached_29 ?_
          refine xx_nm C h (fun n30 h => ?_)
          refine xx_istore_n (lv1 := [(1, .int (iI n30)), (0, .ref (ad 0)), (2, .int (iI x2_4))]) C 31 rfl (by decide) dX12_reached_30 rfl rfl ?_
          refine xx_iincn C 34 rfl 2 (by decide) dX12_reached_31 rfl h (fun n31 h => ?_)
          refine xx_lv (lv1 := [(2, .int (iI n31)), (1, .int (iI n30)), (0, .ref (ad 0))]) rfl ?_
          refine xx_goto C 4 dX12_reached_34 (by decide) ?_
          refine xx_sub [2, 1, 0] rfl ?_
          exact K4 n30 n31 h
        · refine xx_icmp_ge (tgt := 28) C 22 rfl dX12_reached_19 (by decide) h (fun h => ?_) (fun h => ?_)
          · refine xx_iconst C 29 rfl dX12_reached_28 ?_
            refine xx_sub [0, 2] rfl ?_
            exact K29 0 h
          · refine xx_iconst C 23 rfl dX12_reached_22 ?_
            refine xx_iload_n C 24 rfl 2 dX12_reached_23 rfl rfl ?_
            refine xx_ishl C 25 rfl dX12_reached_24 ?_
            refine xx_goto C 29 dX12_reached_25 (by decide) ?_
            refine xx_sub [0, 2] rfl ?_
            exact K29 (sl_ 1 x2_4) h
  refine xx_sub [2, 1, 0] rfl ?_
  exact L4 _ _ _ h

def f_X12_live (μ : mu_T)  : Option (Int × mu_T) :=
  bd_ (f_X12_measures μ (-11) 0) (fun μ4 => bd_ (f_X12_reached μ4) (fun v8 => some (v8, μ4)))
set_option maxHeartbeats 4000000 in
set_option maxRecDepth 100000 in
theorem c_X12_live {G : gp_} {ad : Nat → Nat} (μ : mu_T)  (a : Int) (μr : mu_T) (h : f_X12_live μ  = some (a, μr)) : mi_ yX12_live cX12_live 1 (some .int) ({ frames := 2, cells := 0, slots := 0, locals := 47 } : Room) G 9 ad (ceM G ad) [.ref (ad 0)] μ a μr := by
  refine mi_in (own := "UrnHeapModel") (lv := [(0, .ref (ad 0))]) (by decide) rfl rfl (Nat.le_of_ble_eq_true rfl) (fun X C E => ?_)
  unfold f_X12_live at h
  refine xx_aload_n C 1 rfl 0 dX12_live_0 rfl rfl ?_
  refine xx_bipush C 3 rfl dX12_live_1 (by decide) ?_
  refine xx_iconst C 4 rfl dX12_live_3 ?_
  refine xx_cVv (As := [.int (iI (-11)), .int (iI 0)]) (st := []) (o := 0) C 7 rfl (by decide) (ceM_0 _ _ _) rfl rfl ca_X12_measures cv_X12_measures w_1419 rfl ⟨Nat.le_of_ble_eq_true rfl, Nat.le_of_ble_eq_true rfl⟩ ⟨Nat.le_of_ble_eq_true rfl, Nat.le_of_ble_eq_true rfl⟩ (Nat.le_of_ble_eq_true rfl) dX12_live_4 (fun μ4 e9 => c_X12_measures _ _ _ μ4 e9) h (fun μ4 h => ?_) rfl
  refine xx_aload_n C 8 rfl 0 dX12_live_7 rfl rfl ?_
  refine xx_cVip (As := []) (st := []) (o := 0) C 11 rfl (by decide) (ceM_0 _ _ _) rfl rfl ca_X12_reached cv_X12_reached w_1427 rfl ⟨Nat.le_of_ble_eq_true rfl, Nat.le_of_ble_eq_true rfl⟩ ⟨Nat.le_of_ble_eq_true rfl, Nat.le_of_ble_eq_true rfl⟩ (Nat.le_of_ble_eq_true rfl) dX12_live_8 (fun v8 e9 => c_X12_reached _ v8 e9) h (fun v8 h => ?_) rfl
  exact xx_iret C E rfl ⟨Nat.le_of_ble_eq_true rfl, Nat.le_of_ble_eq_true rfl⟩ dX12_live_11 h

def f_X12_liveAgain (μ : mu_T)  : Option (Int × mu_T) :=
  bp_ (f_X12_live μ) (fun v1 μ1 => some (v1, μ1))
set_option maxHeartbeats 4000000 in
set_option maxRecDepth 100000 in
theorem c_X12_liveAgain {G : gp_} {ad : Nat → Nat} (μ : mu_T)  (a : Int) (μr : mu_T) (h : f_X12_liveAgain μ  = some (a, μr)) : mi_ yX12_liveAgain cX12_liveAgain 1 (some .int) ({ frames := 3, cells := 0, slots := 0, locals := 67 } : Room) G 9 ad (ceM G ad) [.ref (ad 0)] μ a μr := by
  refine mi_in (own := "UrnHeapModel") (lv := [(0, .ref (ad 0))]) (by decide) rfl rfl (Nat.le_of_ble_eq_true rfl) (fun X C E => ?_)
  unfold f_X12_liveAgain at h
  refine xx_aload_n C 1 rfl 0 dX12_liveAgain_0 rfl rfl ?_
  refine xx_cVi (As := []) (st := []) (o := 0) C 4 rfl (by decide) (ceM_0 _ _ _) rfl rfl ca_X12_live cv_X12_live w_1435 rfl ⟨Nat.le_of_ble_eq_true rfl, Nat.le_of_ble_eq_true rfl⟩ ⟨Nat.le_of_ble_eq_true rfl, Nat.le_of_ble_eq_true rfl⟩ (Nat.le_of_ble_eq_true rfl) dX12_liveAgain_1 (fun v1 μ1 e9 => c_X12_live _ v1 μ1 e9) h (fun v1 μ1 h => ?_) rfl
  exact xx_iret C E rfl ⟨Nat.le_of_ble_eq_true rfl, Nat.le_of_ble_eq_true rfl⟩ dX12_liveAgain_4 h
end
section
theorem dX12_depth_0 : decode cX12_depth 0 = .ok (.aload_n 0, 1) := by decide +kernel
theorem dX12_depth_1 : decode cX12_depth 1 = .ok (.iload_n 1, 1) := by decide +kernel
theorem dX12_depth_2 : decode cX12_depth 2 = .ok (.invokevirtual 97, 3) := by decide +kernel
theorem dX12_depth_5 : decode cX12_depth 5 = .ok (.ifCond .ne 6, 3) := by decide +kernel
theorem dX12_depth_8 : decode cX12_depth 8 = .ok (.bipush (-11), 2) := by decide +kernel
theorem dX12_depth_10 : decode cX12_depth 10 = .ok (.ireturn, 1) := by decide +kernel
theorem dX12_depth_11 : decode cX12_depth 11 = .ok (.aload_n 0, 1) := by decide +kernel
theorem dX12_depth_12 : decode cX12_depth 12 = .ok (.bipush (-11), 2) := by decide +kernel
theorem dX12_depth_14 : decode cX12_depth 14 = .ok (.iconst 0, 1) := by decide +kernel
theorem dX12_depth_15 : decode cX12_depth 15 = .ok (.invokevirtual 156, 3) := by decide +kernel
theorem dX12_depth_18 : decode cX12_depth 18 = .ok (.aload_n 0, 1) := by decide +kernel
theorem dX12_depth_19 : decode cX12_depth 19 = .ok (.getfield 31, 3) := by decide +kernel
theorem dX12_depth_22 : decode cX12_depth 22 = .ok (.iload_n 1, 1) := by decide +kernel
theorem dX12_depth_23 : decode cX12_depth 23 = .ok (.iaload, 1) := by decide +kernel
theorem dX12_depth_24 : decode cX12_depth 24 = .ok (.bipush 99, 2) := by decide +kernel
theorem dX12_depth_26 : decode cX12_depth 26 = .ok (.if_icmp .ge 12, 3) := by decide +kernel
theorem dX12_depth_29 : decode cX12_depth 29 = .ok (.aload_n 0, 1) := by decide +kernel
theorem dX12_depth_30 : decode cX12_depth 30 = .ok (.getfield 31, 3) := by decide +kernel
theorem dX12_depth_33 : decode cX12_depth 33 = .ok (.iload_n 1, 1) := by decide +kernel
theorem dX12_depth_34 : decode cX12_depth 34 = .ok (.iaload, 1) := by decide +kernel
theorem dX12_depth_35 : decode cX12_depth 35 = .ok (.goto 5, 3) := by decide +kernel
theorem dX12_depth_38 : decode cX12_depth 38 = .ok (.bipush (-15), 2) := by decide +kernel
theorem dX12_depth_40 : decode cX12_depth 40 = .ok (.ireturn, 1) := by decide +kernel
theorem dX12_keepers_0 : decode cX12_keepers 0 = .ok (.aload_n 0, 1) := by decide +kernel
theorem dX12_keepers_1 : decode cX12_keepers 1 = .ok (.iload_n 1, 1) := by decide +kernel
theorem dX12_keepers_2 : decode cX12_keepers 2 = .ok (.invokevirtual 97, 3) := by decide +kernel
theorem dX12_keepers_5 : decode cX12_keepers 5 = .ok (.ifCond .ne 6, 3) := by decide +kernel
theorem dX12_keepers_8 : decode cX12_keepers 8 = .ok (.bipush (-11), 2) := by decide +kernel
theorem dX12_keepers_10 : decode cX12_keepers 10 = .ok (.ireturn, 1) := by decide +kernel
theorem dX12_keepers_11 : decode cX12_keepers 11 = .ok (.aload_n 0, 1) := by decide +kernel
theorem dX12_keepers_12 : decode cX12_keepers 12 = .ok (.bipush (-11), 2) := by decide +kernel
theorem dX12_keepers_14 : decode cX12_keepers 14 = .ok (.iconst 0, 1) := by decide +kernel
theorem dX12_keepers_15 : decode cX12_keepers 15 = .ok (.invokevirtual 156, 3) := by decide +kernel
theorem dX12_keepers_18 : decode cX12_keepers 18 = .ok (.aload_n 0, 1) := by decide +kernel
theorem dX12_keepers_19 : decode cX12_keepers 19 = .ok (.getfield 31, 3) := by decide +kernel
theorem dX12_keepers_22 : decode cX12_keepers 22 = .ok (.iload_n 1, 1) := by decide +kernel
theorem dX12_keepers_23 : decode cX12_keepers 23 = .ok (.iaload, 1) := by decide +kernel
theorem dX12_keepers_24 : decode cX12_keepers 24 = .ok (.bipush 99, 2) := by decide +kernel
theorem dX12_keepers_26 : decode cX12_keepers 26 = .ok (.if_icmp .ne 5, 3) := by decide +kernel
theorem dX12_keepers_29 : decode cX12_keepers 29 = .ok (.iconst 0, 1) := by decide +kernel
theorem dX12_keepers_30 : decode cX12_keepers 30 = .ok (.ireturn, 1) := by decide +kernel
theorem dX12_keepers_31 : decode cX12_keepers 31 = .ok (.iconst 0, 1) := by decide +kernel
theorem dX12_keepers_32 : decode cX12_keepers 32 = .ok (.istore_n 2, 1) := by decide +kernel
theorem dX12_keepers_33 : decode cX12_keepers 33 = .ok (.iconst 0, 1) := by decide +kernel
theorem dX12_keepers_34 : decode cX12_keepers 34 = .ok (.istore_n 3, 1) := by decide +kernel
theorem dX12_keepers_35 : decode cX12_keepers 35 = .ok (.iload_n 3, 1) := by decide +kernel
theorem dX12_keepers_36 : decode cX12_keepers 36 = .ok (.bipush 6, 2) := by decide +kernel
theorem dX12_keepers_38 : decode cX12_keepers 38 = .ok (.if_icmp .ge 36, 3) := by decide +kernel
theorem dX12_keepers_41 : decode cX12_keepers 41 = .ok (.aload_n 0, 1) := by decide +kernel
theorem dX12_keepers_42 : decode cX12_keepers 42 = .ok (.iload_n 3, 1) := by decide +kernel
theorem dX12_keepers_43 : decode cX12_keepers 43 = .ok (.iconst 0, 1) := by decide +kernel
theorem dX12_keepers_44 : decode cX12_keepers 44 = .ok (.invokevirtual 156, 3) := by decide +kernel
theorem dX12_keepers_47 : decode cX12_keepers 47 = .ok (.iload_n 2, 1) := by decide +kernel
theorem dX12_keepers_48 : decode cX12_keepers 48 = .ok (.aload_n 0, 1) := by decide +kernel
theorem dX12_keepers_49 : decode cX12_keepers 49 = .ok (.getfield 31, 3) := by decide +kernel
theorem dX12_keepers_52 : decode cX12_keepers 52 = .ok (.iload_n 1, 1) := by decide +kernel
theorem dX12_keepers_53 : decode cX12_keepers 53 = .ok (.iaload, 1) := by decide +kernel
theorem dX12_keepers_54 : decode cX12_keepers 54 = .ok (.bipush 99, 2) := by decide +kernel
theorem dX12_keepers_56 : decode cX12_keepers 56 = .ok (.if_icmp .ne 9, 3) := by decide +kernel
theorem dX12_keepers_59 : decode cX12_keepers 59 = .ok (.iconst 1, 1) := by decide +kernel
theorem dX12_keepers_60 : decode cX12_keepers 60 = .ok (.iload_n 3, 1) := by decide +kernel
theorem dX12_keepers_61 : decode cX12_keepers 61 = .ok (.ishl, 1) := by decide +kernel
theorem dX12_keepers_62 : decode cX12_keepers 62 = .ok (.goto 4, 3) := by decide +kernel
theorem dX12_keepers_65 : decode cX12_keepers 65 = .ok (.iconst 0, 1) := by decide +kernel
theorem dX12_keepers_66 : decode cX12_keepers 66 = .ok (.ior, 1) := by decide +kernel
theorem dX12_keepers_67 : decode cX12_keepers 67 = .ok (.istore_n 2, 1) := by decide +kernel
theorem dX12_keepers_68 : decode cX12_keepers 68 = .ok (.iinc 3 1, 3) := by decide +kernel
theorem dX12_keepers_71 : decode cX12_keepers 71 = .ok (.goto (-36), 3) := by decide +kernel
theorem dX12_keepers_74 : decode cX12_keepers 74 = .ok (.iload_n 2, 1) := by decide +kernel
theorem dX12_keepers_75 : decode cX12_keepers 75 = .ok (.ireturn, 1) := by decide +kernel
theorem dX12_ring_0 : decode cX12_ring 0 = .ok (.aload_n 0, 1) := by decide +kernel
theorem dX12_ring_1 : decode cX12_ring 1 = .ok (.iload_n 1, 1) := by decide +kernel
theorem dX12_ring_2 : decode cX12_ring 2 = .ok (.invokevirtual 97, 3) := by decide +kernel
theorem dX12_ring_5 : decode cX12_ring 5 = .ok (.ifCond .ne 6, 3) := by decide +kernel
theorem dX12_ring_8 : decode cX12_ring 8 = .ok (.bipush (-11), 2) := by decide +kernel
theorem dX12_ring_10 : decode cX12_ring 10 = .ok (.ireturn, 1) := by decide +kernel
theorem dX12_ring_11 : decode cX12_ring 11 = .ok (.iconst 0, 1) := by decide +kernel
theorem dX12_ring_12 : decode cX12_ring 12 = .ok (.istore_n 2, 1) := by decide +kernel
theorem dX12_ring_13 : decode cX12_ring 13 = .ok (.iload_n 2, 1) := by decide +kernel
theorem dX12_ring_14 : decode cX12_ring 14 = .ok (.bipush 24, 2) := by decide +kernel
theorem dX12_ring_16 : decode cX12_ring 16 = .ok (.if_icmp .ge 17, 3) := by decide +kernel
theorem dX12_ring_19 : decode cX12_ring 19 = .ok (.aload_n 0, 1) := by decide +kernel
theorem dX12_ring_20 : decode cX12_ring 20 = .ok (.getfield 31, 3) := by decide +kernel
theorem dX12_ring_23 : decode cX12_ring 23 = .ok (.iload_n 2, 1) := by decide +kernel
theorem dX12_ring_24 : decode cX12_ring 24 = .ok (.bipush 99, 2) := by decide +kernel
theorem dX12_ring_26 : decode cX12_ring 26 = .ok (.iastore, 1) := by decide +kernel
theorem dX12_ring_27 : decode cX12_ring 27 = .ok (.iinc 2 1, 3) := by decide +kernel
theorem dX12_ring_30 : decode cX12_ring 30 = .ok (.goto (-17), 3) := by decide +kernel
theorem dX12_ring_33 : decode cX12_ring 33 = .ok (.iconst 0, 1) := by decide +kernel
theorem dX12_ring_34 : decode cX12_ring 34 = .ok (.istore_n 2, 1) := by decide +kernel
theorem dX12_ring_35 : decode cX12_ring 35 = .ok (.iload_n 2, 1) := by decide +kernel
theorem dX12_ring_36 : decode cX12_ring 36 = .ok (.iconst 4, 1) := by decide +kernel
theorem dX12_ring_37 : decode cX12_ring 37 = .ok (.if_icmp .ge 24, 3) := by decide +kernel
theorem dX12_ring_40 : decode cX12_ring 40 = .ok (.aload_n 0, 1) := by decide +kernel
theorem dX12_ring_41 : decode cX12_ring 41 = .ok (.aload_n 0, 1) := by decide +kernel
theorem dX12_ring_42 : decode cX12_ring 42 = .ok (.getfield 7, 3) := by decide +kernel
theorem dX12_ring_45 : decode cX12_ring 45 = .ok (.iload_n 1, 1) := by decide +kernel
theorem dX12_ring_46 : decode cX12_ring 46 = .ok (.iload_n 2, 1) := by decide +kernel
theorem dX12_ring_47 : decode cX12_ring 47 = .ok (.invokestatic 62, 3) := by decide +kernel
theorem dX12_ring_50 : decode cX12_ring 50 = .ok (.iaload, 1) := by decide +kernel
theorem dX12_ring_51 : decode cX12_ring 51 = .ok (.iconst 1, 1) := by decide +kernel
theorem dX12_ring_52 : decode cX12_ring 52 = .ok (.invokevirtual 152, 3) := by decide +kernel
theorem dX12_ring_55 : decode cX12_ring 55 = .ok (.iinc 2 1, 3) := by decide +kernel
theorem dX12_ring_58 : decode cX12_ring 58 = .ok (.goto (-23), 3) := by decide +kernel
theorem dX12_ring_61 : decode cX12_ring 61 = .ok (.iconst 0, 1) := by decide +kernel
theorem dX12_ring_62 : decode cX12_ring 62 = .ok (.istore_n 2, 1) := by decide +kernel
theorem dX12_ring_63 : decode cX12_ring 63 = .ok (.iload_n 2, 1) := by decide +kernel
theorem dX12_ring_64 : decode cX12_ring 64 = .ok (.bipush 24, 2) := by decide +kernel
theorem dX12_ring_66 : decode cX12_ring 66 = .ok (.if_icmp .ge 72, 3) := by decide +kernel
theorem dX12_ring_69 : decode cX12_ring 69 = .ok (.iconst 0, 1) := by decide +kernel
theorem dX12_ring_70 : decode cX12_ring 70 = .ok (.istore_n 3, 1) := by decide +kernel
theorem dX12_ring_71 : decode cX12_ring 71 = .ok (.iload_n 3, 1) := by decide +kernel
theorem dX12_ring_72 : decode cX12_ring 72 = .ok (.bipush 24, 2) := by decide +kernel
theorem dX12_ring_74 : decode cX12_ring 74 = .ok (.if_icmp .ge 58, 3) := by decide +kernel
theorem dX12_ring_77 : decode cX12_ring 77 = .ok (.iconst 0, 1) := by decide +kernel
theorem dX12_ring_78 : decode cX12_ring 78 = .ok (.istore 4, 2) := by decide +kernel
theorem dX12_ring_80 : decode cX12_ring 80 = .ok (.iload 4, 2) := by decide +kernel
theorem dX12_ring_82 : decode cX12_ring 82 = .ok (.iconst 4, 1) := by decide +kernel
theorem dX12_ring_83 : decode cX12_ring 83 = .ok (.if_icmp .ge 43, 3) := by decide +kernel
theorem dX12_ring_86 : decode cX12_ring 86 = .ok (.aload_n 0, 1) := by decide +kernel
theorem dX12_ring_87 : decode cX12_ring 87 = .ok (.getfield 31, 3) := by decide +kernel
theorem dX12_ring_90 : decode cX12_ring 90 = .ok (.iload_n 3, 1) := by decide +kernel
theorem dX12_ring_91 : decode cX12_ring 91 = .ok (.iaload, 1) := by decide +kernel
theorem dX12_ring_92 : decode cX12_ring 92 = .ok (.bipush 99, 2) := by decide +kernel
theorem dX12_ring_94 : decode cX12_ring 94 = .ok (.if_icmp .ge 26, 3) := by decide +kernel
theorem dX12_ring_97 : decode cX12_ring 97 = .ok (.aload_n 0, 1) := by decide +kernel
theorem dX12_ring_98 : decode cX12_ring 98 = .ok (.aload_n 0, 1) := by decide +kernel
theorem dX12_ring_99 : decode cX12_ring 99 = .ok (.getfield 7, 3) := by decide +kernel
theorem dX12_ring_102 : decode cX12_ring 102 = .ok (.iload_n 3, 1) := by decide +kernel
theorem dX12_ring_103 : decode cX12_ring 103 = .ok (.iload 4, 2) := by decide +kernel
theorem dX12_ring_105 : decode cX12_ring 105 = .ok (.invokestatic 62, 3) := by decide +kernel
theorem dX12_ring_108 : decode cX12_ring 108 = .ok (.iaload, 1) := by decide +kernel
theorem dX12_ring_109 : decode cX12_ring 109 = .ok (.aload_n 0, 1) := by decide +kernel
theorem dX12_ring_110 : decode cX12_ring 110 = .ok (.getfield 31, 3) := by decide +kernel
theorem dX12_ring_113 : decode cX12_ring 113 = .ok (.iload_n 3, 1) := by decide +kernel
theorem dX12_ring_114 : decode cX12_ring 114 = .ok (.iaload, 1) := by decide +kernel
theorem dX12_ring_115 : decode cX12_ring 115 = .ok (.iconst 1, 1) := by decide +kernel
theorem dX12_ring_116 : decode cX12_ring 116 = .ok (.iadd, 1) := by decide +kernel
theorem dX12_ring_117 : decode cX12_ring 117 = .ok (.invokevirtual 152, 3) := by decide +kernel
theorem dX12_ring_120 : decode cX12_ring 120 = .ok (.iinc 4 1, 3) := by decide +kernel
theorem dX12_ring_123 : decode cX12_ring 123 = .ok (.goto (-43), 3) := by decide +kernel
theorem dX12_ring_126 : decode cX12_ring 126 = .ok (.iinc 3 1, 3) := by decide +kernel
theorem dX12_ring_129 : decode cX12_ring 129 = .ok (.goto (-58), 3) := by decide +kernel
theorem dX12_ring_132 : decode cX12_ring 132 = .ok (.iinc 2 1, 3) := by decide +kernel
theorem dX12_ring_135 : decode cX12_ring 135 = .ok (.goto (-72), 3) := by decide +kernel
theorem dX12_ring_138 : decode cX12_ring 138 = .ok (.aload_n 0, 1) := by decide +kernel
theorem dX12_ring_139 : decode cX12_ring 139 = .ok (.getfield 31, 3) := by decide +kernel
theorem dX12_ring_142 : decode cX12_ring 142 = .ok (.iload_n 1, 1) := by decide +kernel
theorem dX12_ring_143 : decode cX12_ring 143 = .ok (.iaload, 1) := by decide +kernel
theorem dX12_ring_144 : decode cX12_ring 144 = .ok (.bipush 99, 2) := by decide +kernel
theorem dX12_ring_146 : decode cX12_ring 146 = .ok (.if_icmp .ge 12, 3) := by decide +kernel
theorem dX12_ring_149 : decode cX12_ring 149 = .ok (.aload_n 0, 1) := by decide +kernel
theorem dX12_ring_150 : decode cX12_ring 150 = .ok (.getfield 31, 3) := by decide +kernel
theorem dX12_ring_153 : decode cX12_ring 153 = .ok (.iload_n 1, 1) := by decide +kernel
theorem dX12_ring_154 : decode cX12_ring 154 = .ok (.iaload, 1) := by decide +kernel
theorem dX12_ring_155 : decode cX12_ring 155 = .ok (.goto 5, 3) := by decide +kernel
theorem dX12_ring_158 : decode cX12_ring 158 = .ok (.bipush (-15), 2) := by decide +kernel
theorem dX12_ring_160 : decode cX12_ring 160 = .ok (.ireturn, 1) := by decide +kernel
theorem dX12_urns_0 : decode cX12_urns 0 = .ok (.iconst 0, 1) := by decide +kernel
theorem dX12_urns_1 : decode cX12_urns 1 = .ok (.istore_n 1, 1) := by decide +kernel
theorem dX12_urns_2 : decode cX12_urns 2 = .ok (.iconst 0, 1) := by decide +kernel
theorem dX12_urns_3 : decode cX12_urns 3 = .ok (.istore_n 2, 1) := by decide +kernel
theorem dX12_urns_4 : decode cX12_urns 4 = .ok (.iload_n 2, 1) := by decide +kernel
theorem dX12_urns_5 : decode cX12_urns 5 = .ok (.bipush 24, 2) := by decide +kernel
theorem dX12_urns_7 : decode cX12_urns 7 = .ok (.if_icmp .ge 23, 3) := by decide +kernel
theorem dX12_urns_10 : decode cX12_urns 10 = .ok (.iload_n 1, 1) := by decide +kernel
theorem dX12_urns_11 : decode cX12_urns 11 = .ok (.aload_n 0, 1) := by decide +kernel
theorem dX12_urns_12 : decode cX12_urns 12 = .ok (.getfield 7, 3) := by decide +kernel
theorem dX12_urns_15 : decode cX12_urns 15 = .ok (.bipush 17, 2) := by decide +kernel
theorem dX12_urns_17 : decode cX12_urns 17 = .ok (.iload_n 2, 1) := by decide +kernel
theorem dX12_urns_18 : decode cX12_urns 18 = .ok (.iadd, 1) := by decide +kernel
theorem dX12_urns_19 : decode cX12_urns 19 = .ok (.iaload, 1) := by decide +kernel
theorem dX12_urns_20 : decode cX12_urns 20 = .ok (.iload_n 2, 1) := by decide +kernel
theorem dX12_urns_21 : decode cX12_urns 21 = .ok (.ishl, 1) := by decide +kernel
theorem dX12_urns_22 : decode cX12_urns 22 = .ok (.ior, 1) := by decide +kernel
theorem dX12_urns_23 : decode cX12_urns 23 = .ok (.istore_n 1, 1) := by decide +kernel
theorem dX12_urns_24 : decode cX12_urns 24 = .ok (.iinc 2 1, 3) := by decide +kernel
theorem dX12_urns_27 : decode cX12_urns 27 = .ok (.goto (-23), 3) := by decide +kernel
theorem dX12_urns_30 : decode cX12_urns 30 = .ok (.iload_n 1, 1) := by decide +kernel
theorem dX12_urns_31 : decode cX12_urns 31 = .ok (.ireturn, 1) := by decide +kernel
theorem dX12_wouldFree_0 : decode cX12_wouldFree 0 = .ok (.aload_n 0, 1) := by decide +kernel
theorem dX12_wouldFree_1 : decode cX12_wouldFree 1 = .ok (.bipush (-11), 2) := by decide +kernel
theorem dX12_wouldFree_3 : decode cX12_wouldFree 3 = .ok (.iconst 1, 1) := by decide +kernel
theorem dX12_wouldFree_4 : decode cX12_wouldFree 4 = .ok (.invokevirtual 156, 3) := by decide +kernel
theorem dX12_wouldFree_7 : decode cX12_wouldFree 7 = .ok (.aload_n 0, 1) := by decide +kernel
theorem dX12_wouldFree_8 : decode cX12_wouldFree 8 = .ok (.invokevirtual 166, 3) := by decide +kernel
theorem dX12_wouldFree_11 : decode cX12_wouldFree 11 = .ok (.aload_n 0, 1) := by decide +kernel
theorem dX12_wouldFree_12 : decode cX12_wouldFree 12 = .ok (.invokevirtual 160, 3) := by decide +kernel
theorem dX12_wouldFree_15 : decode cX12_wouldFree 15 = .ok (.iconst (-1), 1) := by decide +kernel
theorem dX12_wouldFree_16 : decode cX12_wouldFree 16 = .ok (.ixor, 1) := by decide +kernel
theorem dX12_wouldFree_17 : decode cX12_wouldFree 17 = .ok (.iand, 1) := by decide +kernel
theorem dX12_wouldFree_18 : decode cX12_wouldFree 18 = .ok (.ireturn, 1) := by decide +kernel
theorem dX12_isAhead_0 : decode cX12_isAhead 0 = .ok (.aload_n 0, 1) := by decide +kernel
theorem dX12_isAhead_1 : decode cX12_isAhead 1 = .ok (.iload_n 1, 1) := by decide +kernel
theorem dX12_isAhead_2 : decode cX12_isAhead 2 = .ok (.invokevirtual 140, 3) := by decide +kernel
theorem dX12_isAhead_5 : decode cX12_isAhead 5 = .ok (.aload_n 0, 1) := by decide +kernel
theorem dX12_isAhead_6 : decode cX12_isAhead 6 = .ok (.iload_n 2, 1) := by decide +kernel
theorem dX12_isAhead_7 : decode cX12_isAhead 7 = .ok (.invokevirtual 140, 3) := by decide +kernel
theorem dX12_isAhead_10 : decode cX12_isAhead 10 = .ok (.if_icmp .eq 22, 3) := by decide +kernel
theorem dX12_isAhead_13 : decode cX12_isAhead 13 = .ok (.aload_n 0, 1) := by decide +kernel
theorem dX12_isAhead_14 : decode cX12_isAhead 14 = .ok (.iload_n 1, 1) := by decide +kernel
theorem dX12_isAhead_15 : decode cX12_isAhead 15 = .ok (.invokevirtual 140, 3) := by decide +kernel
theorem dX12_isAhead_18 : decode cX12_isAhead 18 = .ok (.aload_n 0, 1) := by decide +kernel
theorem dX12_isAhead_19 : decode cX12_isAhead 19 = .ok (.iload_n 2, 1) := by decide +kernel
theorem dX12_isAhead_20 : decode cX12_isAhead 20 = .ok (.invokevirtual 140, 3) := by decide +kernel
theorem dX12_isAhead_23 : decode cX12_isAhead 23 = .ok (.if_icmp .le 7, 3) := by decide +kernel
theorem dX12_isAhead_26 : decode cX12_isAhead 26 = .ok (.iconst 1, 1) := by decide +kernel
theorem dX12_isAhead_27 : decode cX12_isAhead 27 = .ok (.goto 4, 3) := by decide +kernel
theorem dX12_isAhead_30 : decode cX12_isAhead 30 = .ok (.iconst 0, 1) := by decide +kernel
theorem dX12_isAhead_31 : decode cX12_isAhead 31 = .ok (.ireturn, 1) := by decide +kernel
theorem dX12_isAhead_32 : decode cX12_isAhead 32 = .ok (.aload_n 0, 1) := by decide +kernel
theorem dX12_isAhead_33 : decode cX12_isAhead 33 = .ok (.iload_n 1, 1) := by decide +kernel
theorem dX12_isAhead_34 : decode cX12_isAhead 34 = .ok (.invokevirtual 137, 3) := by decide +kernel
theorem dX12_isAhead_37 : decode cX12_isAhead 37 = .ok (.aload_n 0, 1) := by decide +kernel
theorem dX12_isAhead_38 : decode cX12_isAhead 38 = .ok (.iload_n 2, 1) := by decide +kernel
theorem dX12_isAhead_39 : decode cX12_isAhead 39 = .ok (.invokevirtual 137, 3) := by decide +kernel
theorem dX12_isAhead_42 : decode cX12_isAhead 42 = .ok (.if_icmp .gt 21, 3) := by decide +kernel
theorem dX12_isAhead_45 : decode cX12_isAhead 45 = .ok (.aload_n 0, 1) := by decide +kernel
theorem dX12_isAhead_46 : decode cX12_isAhead 46 = .ok (.iload_n 1, 1) := by decide +kernel
theorem dX12_isAhead_47 : decode cX12_isAhead 47 = .ok (.invokevirtual 137, 3) := by decide +kernel
theorem dX12_isAhead_50 : decode cX12_isAhead 50 = .ok (.aload_n 0, 1) := by decide +kernel
theorem dX12_isAhead_51 : decode cX12_isAhead 51 = .ok (.iload_n 2, 1) := by decide +kernel
theorem dX12_isAhead_52 : decode cX12_isAhead 52 = .ok (.invokevirtual 137, 3) := by decide +kernel
theorem dX12_isAhead_55 : decode cX12_isAhead 55 = .ok (.if_icmp .ne 12, 3) := by decide +kernel
theorem dX12_isAhead_58 : decode cX12_isAhead 58 = .ok (.iload_n 1, 1) := by decide +kernel
theorem dX12_isAhead_59 : decode cX12_isAhead 59 = .ok (.iload_n 2, 1) := by decide +kernel
theorem dX12_isAhead_60 : decode cX12_isAhead 60 = .ok (.if_icmp .ge 7, 3) := by decide +kernel
theorem dX12_isAhead_63 : decode cX12_isAhead 63 = .ok (.iconst 1, 1) := by decide +kernel
theorem dX12_isAhead_64 : decode cX12_isAhead 64 = .ok (.goto 4, 3) := by decide +kernel
theorem dX12_isAhead_67 : decode cX12_isAhead 67 = .ok (.iconst 0, 1) := by decide +kernel
theorem dX12_isAhead_68 : decode cX12_isAhead 68 = .ok (.ireturn, 1) := by decide +kernel
theorem dX12_append_0 : decode cX12_append 0 = .ok (.iload_n 1, 1) := by decide +kernel
theorem dX12_append_1 : decode cX12_append 1 = .ok (.bipush 32, 2) := by decide +kernel
theorem dX12_append_3 : decode cX12_append 3 = .ok (.bipush 126, 2) := by decide +kernel
theorem dX12_append_5 : decode cX12_append 5 = .ok (.invokestatic 58, 3) := by decide +kernel
theorem dX12_append_8 : decode cX12_append 8 = .ok (.ifCond .ne 6, 3) := by decide +kernel
theorem dX12_append_11 : decode cX12_append 11 = .ok (.bipush (-12), 2) := by decide +kernel
theorem dX12_append_13 : decode cX12_append 13 = .ok (.ireturn, 1) := by decide +kernel
theorem dX12_append_14 : decode cX12_append 14 = .ok (.aload_n 0, 1) := by decide +kernel
theorem dX12_append_15 : decode cX12_append 15 = .ok (.getfield 173, 3) := by decide +kernel
theorem dX12_append_18 : decode cX12_append 18 = .ok (.bipush 60, 2) := by decide +kernel
theorem dX12_append_20 : decode cX12_append 20 = .ok (.if_icmp .ne 6, 3) := by decide +kernel
theorem dX12_append_23 : decode cX12_append 23 = .ok (.bipush (-13), 2) := by decide +kernel
theorem dX12_append_25 : decode cX12_append 25 = .ok (.ireturn, 1) := by decide +kernel
theorem dX12_append_26 : decode cX12_append 26 = .ok (.aload_n 0, 1) := by decide +kernel
theorem dX12_append_27 : decode cX12_append 27 = .ok (.getfield 22, 3) := by decide +kernel
theorem dX12_append_30 : decode cX12_append 30 = .ok (.aload_n 0, 1) := by decide +kernel
theorem dX12_append_31 : decode cX12_append 31 = .ok (.getfield 173, 3) := by decide +kernel
theorem dX12_append_34 : decode cX12_append 34 = .ok (.iload_n 1, 1) := by decide +kernel
theorem dX12_append_35 : decode cX12_append 35 = .ok (.iastore, 1) := by decide +kernel
theorem dX12_append_36 : decode cX12_append 36 = .ok (.aload_n 0, 1) := by decide +kernel
theorem dX12_append_37 : decode cX12_append 37 = .ok (.dup, 1) := by decide +kernel
theorem dX12_append_38 : decode cX12_append 38 = .ok (.getfield 173, 3) := by decide +kernel
theorem dX12_append_41 : decode cX12_append 41 = .ok (.iconst 1, 1) := by decide +kernel
theorem dX12_append_42 : decode cX12_append 42 = .ok (.iadd, 1) := by decide +kernel
theorem dX12_append_43 : decode cX12_append 43 = .ok (.putfield 173, 3) := by decide +kernel
theorem dX12_append_46 : decode cX12_append 46 = .ok (.aload_n 0, 1) := by decide +kernel
theorem dX12_append_47 : decode cX12_append 47 = .ok (.getfield 173, 3) := by decide +kernel
theorem dX12_append_50 : decode cX12_append 50 = .ok (.ireturn, 1) := by decide +kernel
theorem dX12_here_0 : decode cX12_here 0 = .ok (.aload_n 0, 1) := by decide +kernel
theorem dX12_here_1 : decode cX12_here 1 = .ok (.getfield 176, 3) := by decide +kernel
theorem dX12_here_4 : decode cX12_here 4 = .ok (.aload_n 0, 1) := by decide +kernel
theorem dX12_here_5 : decode cX12_here 5 = .ok (.getfield 179, 3) := by decide +kernel
theorem dX12_here_8 : decode cX12_here 8 = .ok (.if_icmp .ge 15, 3) := by decide +kernel
theorem dX12_here_11 : decode cX12_here 11 = .ok (.aload_n 0, 1) := by decide +kernel
theorem dX12_here_12 : decode cX12_here 12 = .ok (.getfield 22, 3) := by decide +kernel
theorem dX12_here_15 : decode cX12_here 15 = .ok (.aload_n 0, 1) := by decide +kernel
theorem dX12_here_16 : decode cX12_here 16 = .ok (.getfield 176, 3) := by decide +kernel
theorem dX12_here_19 : decode cX12_here 19 = .ok (.iaload, 1) := by decide +kernel
theorem dX12_here_20 : decode cX12_here 20 = .ok (.goto 5, 3) := by decide +kernel
theorem dX12_here_23 : decode cX12_here 23 = .ok (.bipush (-11), 2) := by decide +kernel
theorem dX12_here_25 : decode cX12_here 25 = .ok (.ireturn, 1) := by decide +kernel
theorem dX12_next_0 : decode cX12_next 0 = .ok (.aload_n 0, 1) := by decide +kernel
theorem dX12_next_1 : decode cX12_next 1 = .ok (.getfield 176, 3) := by decide +kernel
theorem dX12_next_4 : decode cX12_next 4 = .ok (.iconst 1, 1) := by decide +kernel
theorem dX12_next_5 : decode cX12_next 5 = .ok (.iadd, 1) := by decide +kernel
theorem dX12_next_6 : decode cX12_next 6 = .ok (.aload_n 0, 1) := by decide +kernel
theorem dX12_next_7 : decode cX12_next 7 = .ok (.getfield 179, 3) := by decide +kernel
theorem dX12_next_10 : decode cX12_next 10 = .ok (.if_icmp .ge 17, 3) := by decide +kernel
theorem dX12_next_13 : decode cX12_next 13 = .ok (.aload_n 0, 1) := by decide +kernel
theorem dX12_next_14 : decode cX12_next 14 = .ok (.getfield 22, 3) := by decide +kernel
theorem dX12_next_17 : decode cX12_next 17 = .ok (.aload_n 0, 1) := by decide +kernel
theorem dX12_next_18 : decode cX12_next 18 = .ok (.getfield 176, 3) := by decide +kernel
theorem dX12_next_21 : decode cX12_next 21 = .ok (.iconst 1, 1) := by decide +kernel
theorem dX12_next_22 : decode cX12_next 22 = .ok (.iadd, 1) := by decide +kernel
theorem dX12_next_23 : decode cX12_next 23 = .ok (.iaload, 1) := by decide +kernel
theorem dX12_next_24 : decode cX12_next 24 = .ok (.goto 5, 3) := by decide +kernel
theorem dX12_next_27 : decode cX12_next 27 = .ok (.bipush (-11), 2) := by decide +kernel
theorem dX12_next_29 : decode cX12_next 29 = .ok (.ireturn, 1) := by decide +kernel
theorem dX12_tells_0 : decode cX12_tells 0 = .ok (.aload_n 0, 1) := by decide +kernel
theorem dX12_tells_1 : decode cX12_tells 1 = .ok (.getfield 25, 3) := by decide +kernel
theorem dX12_tells_4 : decode cX12_tells 4 = .ok (.iconst 4, 1) := by decide +kernel
theorem dX12_tells_5 : decode cX12_tells 5 = .ok (.aload_n 0, 1) := by decide +kernel
theorem dX12_tells_6 : decode cX12_tells 6 = .ok (.getfield 197, 3) := by decide +kernel
theorem dX12_tells_9 : decode cX12_tells 9 = .ok (.imul, 1) := by decide +kernel
theorem dX12_tells_10 : decode cX12_tells 10 = .ok (.iload_n 1, 1) := by decide +kernel
theorem dX12_tells_11 : decode cX12_tells 11 = .ok (.iadd, 1) := by decide +kernel
theorem dX12_tells_12 : decode cX12_tells 12 = .ok (.iload_n 2, 1) := by decide +kernel
theorem dX12_tells_13 : decode cX12_tells 13 = .ok (.iastore, 1) := by decide +kernel
theorem dX12_tells_14 : decode cX12_tells 14 = .ok (.return_, 1) := by decide +kernel
theorem dX12_number_0 : decode cX12_number 0 = .ok (.iconst 0, 1) := by decide +kernel
theorem dX12_number_1 : decode cX12_number 1 = .ok (.istore_n 3, 1) := by decide +kernel
theorem dX12_number_2 : decode cX12_number 2 = .ok (.iconst 0, 1) := by decide +kernel
theorem dX12_number_3 : decode cX12_number 3 = .ok (.istore 4, 2) := by decide +kernel
theorem dX12_number_5 : decode cX12_number 5 = .ok (.aload_n 0, 1) := by decide +kernel
theorem dX12_number_6 : decode cX12_number 6 = .ok (.getfield 186, 3) := by decide +kernel
theorem dX12_number_9 : decode cX12_number 9 = .ok (.ifCond .ne 52, 3) := by decide +kernel
theorem dX12_number_12 : decode cX12_number 12 = .ok (.iload 4, 2) := by decide +kernel
theorem dX12_number_14 : decode cX12_number 14 = .ok (.iload_n 2, 1) := by decide +kernel
theorem dX12_number_15 : decode cX12_number 15 = .ok (.if_icmp .ge 46, 3) := by decide +kernel
theorem dX12_number_18 : decode cX12_number 18 = .ok (.aload_n 0, 1) := by decide +kernel
theorem dX12_number_19 : decode cX12_number 19 = .ok (.invokevirtual 190, 3) := by decide +kernel
theorem dX12_number_22 : decode cX12_number 22 = .ok (.bipush 48, 2) := by decide +kernel
theorem dX12_number_24 : decode cX12_number 24 = .ok (.bipush 57, 2) := by decide +kernel
theorem dX12_number_26 : decode cX12_number 26 = .ok (.invokestatic 58, 3) := by decide +kernel
theorem dX12_number_29 : decode cX12_number 29 = .ok (.ifCond .eq 32, 3) := by decide +kernel
theorem dX12_number_32 : decode cX12_number 32 = .ok (.bipush 10, 2) := by decide +kernel
theorem dX12_number_34 : decode cX12_number 34 = .ok (.iload_n 3, 1) := by decide +kernel
theorem dX12_number_35 : decode cX12_number 35 = .ok (.imul, 1) := by decide +kernel
theorem dX12_number_36 : decode cX12_number 36 = .ok (.aload_n 0, 1) := by decide +kernel
theorem dX12_number_37 : decode cX12_number 37 = .ok (.invokevirtual 190, 3) := by decide +kernel
theorem dX12_number_40 : decode cX12_number 40 = .ok (.iadd, 1) := by decide +kernel
theorem dX12_number_41 : decode cX12_number 41 = .ok (.bipush 48, 2) := by decide +kernel
theorem dX12_number_43 : decode cX12_number 43 = .ok (.isub, 1) := by decide +kernel
theorem dX12_number_44 : decode cX12_number 44 = .ok (.istore_n 3, 1) := by decide +kernel
theorem dX12_number_45 : decode cX12_number 45 = .ok (.aload_n 0, 1) := by decide +kernel
theorem dX12_number_46 : decode cX12_number 46 = .ok (.dup, 1) := by decide +kernel
theorem dX12_number_47 : decode cX12_number 47 = .ok (.getfield 176, 3) := by decide +kernel
theorem dX12_number_50 : decode cX12_number 50 = .ok (.iconst 1, 1) := by decide +kernel
theorem dX12_number_51 : decode cX12_number 51 = .ok (.iadd, 1) := by decide +kernel
theorem dX12_number_52 : decode cX12_number 52 = .ok (.putfield 176, 3) := by decide +kernel
theorem dX12_number_55 : decode cX12_number 55 = .ok (.iinc 4 1, 3) := by decide +kernel
theorem dX12_number_58 : decode cX12_number 58 = .ok (.goto (-53), 3) := by decide +kernel
theorem dX12_number_61 : decode cX12_number 61 = .ok (.aload_n 0, 1) := by decide +kernel
theorem dX12_number_62 : decode cX12_number 62 = .ok (.aload_n 0, 1) := by decide +kernel
theorem dX12_number_63 : decode cX12_number 63 = .ok (.getfield 186, 3) := by decide +kernel
theorem dX12_number_66 : decode cX12_number 66 = .ok (.ifCond .ne 8, 3) := by decide +kernel
theorem dX12_number_69 : decode cX12_number 69 = .ok (.iload 4, 2) := by decide +kernel
theorem dX12_number_71 : decode cX12_number 71 = .ok (.ifCond .ne 7, 3) := by decide +kernel
theorem dX12_number_74 : decode cX12_number 74 = .ok (.iconst 1, 1) := by decide +kernel
theorem dX12_number_75 : decode cX12_number 75 = .ok (.goto 4, 3) := by decide +kernel
theorem dX12_number_78 : decode cX12_number 78 = .ok (.iconst 0, 1) := by decide +kernel
theorem dX12_number_79 : decode cX12_number 79 = .ok (.putfield 186, 3) := by decide +kernel
theorem dX12_number_82 : decode cX12_number 82 = .ok (.aload_n 0, 1) := by decide +kernel
theorem dX12_number_83 : decode cX12_number 83 = .ok (.iload_n 1, 1) := by decide +kernel
theorem dX12_number_84 : decode cX12_number 84 = .ok (.iload_n 3, 1) := by decide +kernel
theorem dX12_number_85 : decode cX12_number 85 = .ok (.invokevirtual 200, 3) := by decide +kernel
theorem dX12_number_88 : decode cX12_number 88 = .ok (.return_, 1) := by decide +kernel
theorem dX12_letter_0 : decode cX12_letter 0 = .ok (.aload_n 0, 1) := by decide +kernel
theorem dX12_letter_1 : decode cX12_letter 1 = .ok (.aload_n 0, 1) := by decide +kernel
theorem dX12_letter_2 : decode cX12_letter 2 = .ok (.getfield 186, 3) := by decide +kernel
theorem dX12_letter_5 : decode cX12_letter 5 = .ok (.ifCond .ne 17, 3) := by decide +kernel
theorem dX12_letter_8 : decode cX12_letter 8 = .ok (.aload_n 0, 1) := by decide +kernel
theorem dX12_letter_9 : decode cX12_letter 9 = .ok (.invokevirtual 190, 3) := by decide +kernel
theorem dX12_letter_12 : decode cX12_letter 12 = .ok (.bipush 97, 2) := by decide +kernel
theorem dX12_letter_14 : decode cX12_letter 14 = .ok (.bipush 102, 2) := by decide +kernel
theorem dX12_letter_16 : decode cX12_letter 16 = .ok (.invokestatic 58, 3) := by decide +kernel
theorem dX12_letter_19 : decode cX12_letter 19 = .ok (.ifCond .ne 7, 3) := by decide +kernel
theorem dX12_letter_22 : decode cX12_letter 22 = .ok (.iconst 1, 1) := by decide +kernel
theorem dX12_letter_23 : decode cX12_letter 23 = .ok (.goto 4, 3) := by decide +kernel
theorem dX12_letter_26 : decode cX12_letter 26 = .ok (.iconst 0, 1) := by decide +kernel
theorem dX12_letter_27 : decode cX12_letter 27 = .ok (.putfield 186, 3) := by decide +kernel
theorem dX12_letter_30 : decode cX12_letter 30 = .ok (.aload_n 0, 1) := by decide +kernel
theorem dX12_letter_31 : decode cX12_letter 31 = .ok (.iload_n 1, 1) := by decide +kernel
theorem dX12_letter_32 : decode cX12_letter 32 = .ok (.aload_n 0, 1) := by decide +kernel
theorem dX12_letter_33 : decode cX12_letter 33 = .ok (.invokevirtual 190, 3) := by decide +kernel
theorem dX12_letter_36 : decode cX12_letter 36 = .ok (.bipush 97, 2) := by decide +kernel
theorem dX12_letter_38 : decode cX12_letter 38 = .ok (.isub, 1) := by decide +kernel
theorem dX12_letter_39 : decode cX12_letter 39 = .ok (.invokevirtual 200, 3) := by decide +kernel
theorem dX12_letter_42 : decode cX12_letter 42 = .ok (.aload_n 0, 1) := by decide +kernel
theorem dX12_letter_43 : decode cX12_letter 43 = .ok (.dup, 1) := by decide +kernel
theorem dX12_letter_44 : decode cX12_letter 44 = .ok (.getfield 176, 3) := by decide +kernel
theorem dX12_letter_47 : decode cX12_letter 47 = .ok (.aload_n 0, 1) := by decide +kernel
theorem dX12_letter_48 : decode cX12_letter 48 = .ok (.getfield 186, 3) := by decide +kernel
theorem dX12_letter_51 : decode cX12_letter 51 = .ok (.ifCond .eq 7, 3) := by decide +kernel
theorem dX12_letter_54 : decode cX12_letter 54 = .ok (.iconst 0, 1) := by decide +kernel
theorem dX12_letter_55 : decode cX12_letter 55 = .ok (.goto 4, 3) := by decide +kernel
theorem dX12_letter_58 : decode cX12_letter 58 = .ok (.iconst 1, 1) := by decide +kernel
theorem dX12_letter_59 : decode cX12_letter 59 = .ok (.iadd, 1) := by decide +kernel
theorem dX12_letter_60 : decode cX12_letter 60 = .ok (.putfield 176, 3) := by decide +kernel
theorem dX12_letter_63 : decode cX12_letter 63 = .ok (.return_, 1) := by decide +kernel
theorem dX12_does_0 : decode cX12_does 0 = .ok (.aload_n 0, 1) := by decide +kernel
theorem dX12_does_1 : decode cX12_does 1 = .ok (.getfield 25, 3) := by decide +kernel
theorem dX12_does_4 : decode cX12_does 4 = .ok (.iconst 4, 1) := by decide +kernel
theorem dX12_does_5 : decode cX12_does 5 = .ok (.iload_n 1, 1) := by decide +kernel
theorem dX12_does_6 : decode cX12_does 6 = .ok (.imul, 1) := by decide +kernel
theorem dX12_does_7 : decode cX12_does 7 = .ok (.iconst 1, 1) := by decide +kernel
theorem dX12_does_8 : decode cX12_does 8 = .ok (.iadd, 1) := by decide +kernel
theorem dX12_does_9 : decode cX12_does 9 = .ok (.iaload, 1) := by decide +kernel
theorem dX12_does_10 : decode cX12_does 10 = .ok (.istore_n 2, 1) := by decide +kernel
theorem dX12_does_11 : decode cX12_does 11 = .ok (.aload_n 0, 1) := by decide +kernel
theorem dX12_does_12 : decode cX12_does 12 = .ok (.getfield 25, 3) := by decide +kernel
theorem dX12_does_15 : decode cX12_does 15 = .ok (.iconst 4, 1) := by decide +kernel
theorem dX12_does_16 : decode cX12_does 16 = .ok (.iload_n 1, 1) := by decide +kernel
theorem dX12_does_17 : decode cX12_does 17 = .ok (.imul, 1) := by decide +kernel
theorem dX12_does_18 : decode cX12_does 18 = .ok (.iconst 2, 1) := by decide +kernel
theorem dX12_does_19 : decode cX12_does 19 = .ok (.iadd, 1) := by decide +kernel
theorem dX12_does_20 : decode cX12_does 20 = .ok (.iaload, 1) := by decide +kernel
theorem dX12_does_21 : decode cX12_does 21 = .ok (.istore_n 3, 1) := by decide +kernel
theorem dX12_does_22 : decode cX12_does 22 = .ok (.aload_n 0, 1) := by decide +kernel
theorem dX12_does_23 : decode cX12_does 23 = .ok (.getfield 25, 3) := by decide +kernel
theorem dX12_does_26 : decode cX12_does 26 = .ok (.iconst 4, 1) := by decide +kernel
theorem dX12_does_27 : decode cX12_does 27 = .ok (.iload_n 1, 1) := by decide +kernel
theorem dX12_does_28 : decode cX12_does 28 = .ok (.imul, 1) := by decide +kernel
theorem dX12_does_29 : decode cX12_does 29 = .ok (.iaload, 1) := by decide +kernel
theorem dX12_does_30 : decode cX12_does 30 = .ok (.tableswitch 164 100 119 #[140, 164, 164, 164, 164, 164, 164, 164, 164, 164, 133, 164, 164, 164, 153, 158, 109, 94, 126, 146], 94) := by decide +kernel
theorem dX12_does_124 : decode cX12_does 124 = .ok (.aload_n 0, 1) := by decide +kernel
theorem dX12_does_125 : decode cX12_does 125 = .ok (.iload_n 2, 1) := by decide +kernel
theorem dX12_does_126 : decode cX12_does 126 = .ok (.iconst 1, 1) := by decide +kernel
theorem dX12_does_127 : decode cX12_does 127 = .ok (.if_icmp .ne 7, 3) := by decide +kernel
theorem dX12_does_130 : decode cX12_does 130 = .ok (.iconst 1, 1) := by decide +kernel
theorem dX12_does_131 : decode cX12_does 131 = .ok (.goto 4, 3) := by decide +kernel
theorem dX12_does_134 : decode cX12_does 134 = .ok (.iconst 0, 1) := by decide +kernel
theorem dX12_does_135 : decode cX12_does 135 = .ok (.invokevirtual 114, 3) := by decide +kernel
theorem dX12_does_138 : decode cX12_does 138 = .ok (.ireturn, 1) := by decide +kernel
theorem dX12_does_139 : decode cX12_does 139 = .ok (.aload_n 0, 1) := by decide +kernel
theorem dX12_does_140 : decode cX12_does 140 = .ok (.iload_n 2, 1) := by decide +kernel
theorem dX12_does_141 : decode cX12_does 141 = .ok (.iload_n 3, 1) := by decide +kernel
theorem dX12_does_142 : decode cX12_does 142 = .ok (.aload_n 0, 1) := by decide +kernel
theorem dX12_does_143 : decode cX12_does 143 = .ok (.getfield 25, 3) := by decide +kernel
theorem dX12_does_146 : decode cX12_does 146 = .ok (.iconst 4, 1) := by decide +kernel
theorem dX12_does_147 : decode cX12_does 147 = .ok (.iload_n 1, 1) := by decide +kernel
theorem dX12_does_148 : decode cX12_does 148 = .ok (.imul, 1) := by decide +kernel
theorem dX12_does_149 : decode cX12_does 149 = .ok (.iconst 3, 1) := by decide +kernel
theorem dX12_does_150 : decode cX12_does 150 = .ok (.iadd, 1) := by decide +kernel
theorem dX12_does_151 : decode cX12_does 151 = .ok (.iaload, 1) := by decide +kernel
theorem dX12_does_152 : decode cX12_does 152 = .ok (.invokevirtual 121, 3) := by decide +kernel
theorem dX12_does_155 : decode cX12_does 155 = .ok (.ireturn, 1) := by decide +kernel
theorem dX12_does_156 : decode cX12_does 156 = .ok (.aload_n 0, 1) := by decide +kernel
theorem dX12_does_157 : decode cX12_does 157 = .ok (.iload_n 2, 1) := by decide +kernel
theorem dX12_does_158 : decode cX12_does 158 = .ok (.iload_n 3, 1) := by decide +kernel
theorem dX12_does_159 : decode cX12_does 159 = .ok (.invokevirtual 125, 3) := by decide +kernel
theorem dX12_does_162 : decode cX12_does 162 = .ok (.ireturn, 1) := by decide +kernel
theorem dX12_does_163 : decode cX12_does 163 = .ok (.aload_n 0, 1) := by decide +kernel
theorem dX12_does_164 : decode cX12_does 164 = .ok (.iload_n 2, 1) := by decide +kernel
theorem dX12_does_165 : decode cX12_does 165 = .ok (.iload_n 3, 1) := by decide +kernel
theorem dX12_does_166 : decode cX12_does 166 = .ok (.invokevirtual 131, 3) := by decide +kernel
theorem dX12_does_169 : decode cX12_does 169 = .ok (.ireturn, 1) := by decide +kernel
theorem dX12_does_170 : decode cX12_does 170 = .ok (.aload_n 0, 1) := by decide +kernel
theorem dX12_does_171 : decode cX12_does 171 = .ok (.iload_n 2, 1) := by decide +kernel
theorem dX12_does_172 : decode cX12_does 172 = .ok (.invokevirtual 134, 3) := by decide +kernel
theorem dX12_does_175 : decode cX12_does 175 = .ok (.ireturn, 1) := by decide +kernel
theorem dX12_does_176 : decode cX12_does 176 = .ok (.aload_n 0, 1) := by decide +kernel
theorem dX12_does_177 : decode cX12_does 177 = .ok (.iload_n 2, 1) := by decide +kernel
theorem dX12_does_178 : decode cX12_does 178 = .ok (.iload_n 3, 1) := by decide +kernel
theorem dX12_does_179 : decode cX12_does 179 = .ok (.invokevirtual 128, 3) := by decide +kernel
theorem dX12_does_182 : decode cX12_does 182 = .ok (.ireturn, 1) := by decide +kernel
theorem dX12_does_183 : decode cX12_does 183 = .ok (.aload_n 0, 1) := by decide +kernel
theorem dX12_does_184 : decode cX12_does 184 = .ok (.invokevirtual 146, 3) := by decide +kernel
theorem dX12_does_187 : decode cX12_does 187 = .ok (.ireturn, 1) := by decide +kernel
theorem dX12_does_188 : decode cX12_does 188 = .ok (.aload_n 0, 1) := by decide +kernel
theorem dX12_does_189 : decode cX12_does 189 = .ok (.iload_n 2, 1) := by decide +kernel
theorem dX12_does_190 : decode cX12_does 190 = .ok (.invokevirtual 143, 3) := by decide +kernel
theorem dX12_does_193 : decode cX12_does 193 = .ok (.ireturn, 1) := by decide +kernel
theorem dX12_does_194 : decode cX12_does 194 = .ok (.aload_n 0, 1) := by decide +kernel
theorem dX12_does_195 : decode cX12_does 195 = .ok (.invokevirtual 149, 3) := by decide +kernel
theorem dX12_does_198 : decode cX12_does 198 = .ok (.ireturn, 1) := by decide +kernel
theorem dX12_writes_0 : decode cX12_writes 0 = .ok (.aload_n 0, 1) := by decide +kernel
theorem dX12_writes_1 : decode cX12_writes 1 = .ok (.getfield 28, 3) := by decide +kernel
theorem dX12_writes_4 : decode cX12_writes 4 = .ok (.aload_n 0, 1) := by decide +kernel
theorem dX12_writes_5 : decode cX12_writes 5 = .ok (.getfield 247, 3) := by decide +kernel
theorem dX12_writes_8 : decode cX12_writes 8 = .ok (.iload_n 1, 1) := by decide +kernel
theorem dX12_writes_9 : decode cX12_writes 9 = .ok (.iastore, 1) := by decide +kernel
theorem dX12_writes_10 : decode cX12_writes 10 = .ok (.aload_n 0, 1) := by decide +kernel
theorem dX12_writes_11 : decode cX12_writes 11 = .ok (.dup, 1) := by decide +kernel
theorem dX12_writes_12 : decode cX12_writes 12 = .ok (.getfield 247, 3) := by decide +kernel
theorem dX12_writes_15 : decode cX12_writes 15 = .ok (.iconst 1, 1) := by decide +kernel
theorem dX12_writes_16 : decode cX12_writes 16 = .ok (.iadd, 1) := by decide +kernel
theorem dX12_writes_17 : decode cX12_writes 17 = .ok (.putfield 247, 3) := by decide +kernel
theorem dX12_writes_20 : decode cX12_writes 20 = .ok (.return_, 1) := by decide +kernel
theorem dX12_writesNumber_0 : decode cX12_writesNumber 0 = .ok (.iload_n 1, 1) := by decide +kernel
theorem dX12_writesNumber_1 : decode cX12_writesNumber 1 = .ok (.bipush 9, 2) := by decide +kernel
theorem dX12_writesNumber_3 : decode cX12_writesNumber 3 = .ok (.if_icmp .le 14, 3) := by decide +kernel
theorem dX12_writesNumber_6 : decode cX12_writesNumber 6 = .ok (.aload_n 0, 1) := by decide +kernel
theorem dX12_writesNumber_7 : decode cX12_writesNumber 7 = .ok (.bipush 48, 2) := by decide +kernel
theorem dX12_writesNumber_9 : decode cX12_writesNumber 9 = .ok (.iload_n 1, 1) := by decide +kernel
theorem dX12_writesNumber_10 : decode cX12_writesNumber 10 = .ok (.bipush 10, 2) := by decide +kernel
theorem dX12_writesNumber_12 : decode cX12_writesNumber 12 = .ok (.idiv, 1) := by decide +kernel
theorem dX12_writesNumber_13 : decode cX12_writesNumber 13 = .ok (.iadd, 1) := by decide +kernel
theorem dX12_writesNumber_14 : decode cX12_writesNumber 14 = .ok (.invokevirtual 250, 3) := by decide +kernel
theorem dX12_writesNumber_17 : decode cX12_writesNumber 17 = .ok (.aload_n 0, 1) := by decide +kernel
theorem dX12_writesNumber_18 : decode cX12_writesNumber 18 = .ok (.bipush 48, 2) := by decide +kernel
theorem dX12_writesNumber_20 : decode cX12_writesNumber 20 = .ok (.iload_n 1, 1) := by decide +kernel
theorem dX12_writesNumber_21 : decode cX12_writesNumber 21 = .ok (.bipush 10, 2) := by decide +kernel
theorem dX12_writesNumber_23 : decode cX12_writesNumber 23 = .ok (.irem, 1) := by decide +kernel
theorem dX12_writesNumber_24 : decode cX12_writesNumber 24 = .ok (.iadd, 1) := by decide +kernel
theorem dX12_writesNumber_25 : decode cX12_writesNumber 25 = .ok (.invokevirtual 250, 3) := by decide +kernel
theorem dX12_writesNumber_28 : decode cX12_writesNumber 28 = .ok (.return_, 1) := by decide +kernel
theorem dX12_tell_0 : decode cX12_tell 0 = .ok (.aload_n 0, 1) := by decide +kernel
theorem dX12_tell_1 : decode cX12_tell 1 = .ok (.iload_n 1, 1) := by decide +kernel
theorem dX12_tell_2 : decode cX12_tell 2 = .ok (.invokevirtual 97, 3) := by decide +kernel
theorem dX12_tell_5 : decode cX12_tell 5 = .ok (.ifCond .ne 6, 3) := by decide +kernel
theorem dX12_tell_8 : decode cX12_tell 8 = .ok (.bipush (-11), 2) := by decide +kernel
theorem dX12_tell_10 : decode cX12_tell 10 = .ok (.ireturn, 1) := by decide +kernel
theorem dX12_tell_11 : decode cX12_tell 11 = .ok (.aload_n 0, 1) := by decide +kernel
theorem dX12_tell_12 : decode cX12_tell 12 = .ok (.iconst 0, 1) := by decide +kernel
theorem dX12_tell_13 : decode cX12_tell 13 = .ok (.putfield 247, 3) := by decide +kernel
theorem dX12_tell_16 : decode cX12_tell 16 = .ok (.aload_n 0, 1) := by decide +kernel
theorem dX12_tell_17 : decode cX12_tell 17 = .ok (.iload_n 1, 1) := by decide +kernel
theorem dX12_tell_18 : decode cX12_tell 18 = .ok (.invokevirtual 253, 3) := by decide +kernel
theorem dX12_tell_21 : decode cX12_tell 21 = .ok (.aload_n 0, 1) := by decide +kernel
theorem dX12_tell_22 : decode cX12_tell 22 = .ok (.getfield 7, 3) := by decide +kernel
theorem dX12_tell_25 : decode cX12_tell 25 = .ok (.bipush 65, 2) := by decide +kernel
theorem dX12_tell_27 : decode cX12_tell 27 = .ok (.iload_n 1, 1) := by decide +kernel
theorem dX12_tell_28 : decode cX12_tell 28 = .ok (.iadd, 1) := by decide +kernel
theorem dX12_tell_29 : decode cX12_tell 29 = .ok (.iaload, 1) := by decide +kernel
theorem dX12_tell_30 : decode cX12_tell 30 = .ok (.ifCond .le 27, 3) := by decide +kernel
theorem dX12_tell_33 : decode cX12_tell 33 = .ok (.aload_n 0, 1) := by decide +kernel
theorem dX12_tell_34 : decode cX12_tell 34 = .ok (.aload_n 0, 1) := by decide +kernel
theorem dX12_tell_35 : decode cX12_tell 35 = .ok (.getfield 7, 3) := by decide +kernel
theorem dX12_tell_38 : decode cX12_tell 38 = .ok (.bipush 65, 2) := by decide +kernel
theorem dX12_tell_40 : decode cX12_tell 40 = .ok (.iload_n 1, 1) := by decide +kernel
theorem dX12_tell_41 : decode cX12_tell 41 = .ok (.iadd, 1) := by decide +kernel
theorem dX12_tell_42 : decode cX12_tell 42 = .ok (.iaload, 1) := by decide +kernel
theorem dX12_tell_43 : decode cX12_tell 43 = .ok (.iconst 1, 1) := by decide +kernel
theorem dX12_tell_44 : decode cX12_tell 44 = .ok (.if_icmp .ne 8, 3) := by decide +kernel
theorem dX12_tell_47 : decode cX12_tell 47 = .ok (.bipush 33, 2) := by decide +kernel
theorem dX12_tell_49 : decode cX12_tell 49 = .ok (.goto 5, 3) := by decide +kernel
theorem dX12_tell_52 : decode cX12_tell 52 = .ok (.bipush 63, 2) := by decide +kernel
theorem dX12_tell_54 : decode cX12_tell 54 = .ok (.invokevirtual 250, 3) := by decide +kernel
theorem dX12_tell_57 : decode cX12_tell 57 = .ok (.aload_n 0, 1) := by decide +kernel
theorem dX12_tell_58 : decode cX12_tell 58 = .ok (.bipush 58, 2) := by decide +kernel
theorem dX12_tell_60 : decode cX12_tell 60 = .ok (.invokevirtual 250, 3) := by decide +kernel
theorem dX12_tell_63 : decode cX12_tell 63 = .ok (.iconst 0, 1) := by decide +kernel
theorem dX12_tell_64 : decode cX12_tell 64 = .ok (.istore_n 2, 1) := by decide +kernel
theorem dX12_tell_65 : decode cX12_tell 65 = .ok (.iload_n 2, 1) := by decide +kernel
theorem dX12_tell_66 : decode cX12_tell 66 = .ok (.iconst 4, 1) := by decide +kernel
theorem dX12_tell_67 : decode cX12_tell 67 = .ok (.if_icmp .ge 57, 3) := by decide +kernel
theorem dX12_tell_70 : decode cX12_tell 70 = .ok (.iload_n 2, 1) := by decide +kernel
theorem dX12_tell_71 : decode cX12_tell 71 = .ok (.ifCond .le 9, 3) := by decide +kernel
theorem dX12_tell_74 : decode cX12_tell 74 = .ok (.aload_n 0, 1) := by decide +kernel
theorem dX12_tell_75 : decode cX12_tell 75 = .ok (.bipush 44, 2) := by decide +kernel
theorem dX12_tell_77 : decode cX12_tell 77 = .ok (.invokevirtual 250, 3) := by decide +kernel
theorem dX12_tell_80 : decode cX12_tell 80 = .ok (.aload_n 0, 1) := by decide +kernel
theorem dX12_tell_81 : decode cX12_tell 81 = .ok (.getfield 7, 3) := by decide +kernel
theorem dX12_tell_84 : decode cX12_tell 84 = .ok (.iload_n 1, 1) := by decide +kernel
theorem dX12_tell_85 : decode cX12_tell 85 = .ok (.iload_n 2, 1) := by decide +kernel
theorem dX12_tell_86 : decode cX12_tell 86 = .ok (.invokestatic 62, 3) := by decide +kernel
theorem dX12_tell_89 : decode cX12_tell 89 = .ok (.iaload, 1) := by decide +kernel
theorem dX12_tell_90 : decode cX12_tell 90 = .ok (.bipush (-15), 2) := by decide +kernel
theorem dX12_tell_92 : decode cX12_tell 92 = .ok (.if_icmp .ne 12, 3) := by decide +kernel
theorem dX12_tell_95 : decode cX12_tell 95 = .ok (.aload_n 0, 1) := by decide +kernel
theorem dX12_tell_96 : decode cX12_tell 96 = .ok (.bipush 45, 2) := by decide +kernel
theorem dX12_tell_98 : decode cX12_tell 98 = .ok (.invokevirtual 250, 3) := by decide +kernel
theorem dX12_tell_101 : decode cX12_tell 101 = .ok (.goto 17, 3) := by decide +kernel
theorem dX12_tell_104 : decode cX12_tell 104 = .ok (.aload_n 0, 1) := by decide +kernel
theorem dX12_tell_105 : decode cX12_tell 105 = .ok (.aload_n 0, 1) := by decide +kernel
theorem dX12_tell_106 : decode cX12_tell 106 = .ok (.getfield 7, 3) := by decide +kernel
theorem dX12_tell_109 : decode cX12_tell 109 = .ok (.iload_n 1, 1) := by decide +kernel
theorem dX12_tell_110 : decode cX12_tell 110 = .ok (.iload_n 2, 1) := by decide +kernel
theorem dX12_tell_111 : decode cX12_tell 111 = .ok (.invokestatic 62, 3) := by decide +kernel
theorem dX12_tell_114 : decode cX12_tell 114 = .ok (.iaload, 1) := by decide +kernel
theorem dX12_tell_115 : decode cX12_tell 115 = .ok (.invokevirtual 253, 3) := by decide +kernel
theorem dX12_tell_118 : decode cX12_tell 118 = .ok (.iinc 2 1, 3) := by decide +kernel
theorem dX12_tell_121 : decode cX12_tell 121 = .ok (.goto (-56), 3) := by decide +kernel
theorem dX12_tell_124 : decode cX12_tell 124 = .ok (.aload_n 0, 1) := by decide +kernel
theorem dX12_tell_125 : decode cX12_tell 125 = .ok (.getfield 7, 3) := by decide +kernel
theorem dX12_tell_128 : decode cX12_tell 128 = .ok (.bipush 113, 2) := by decide +kernel
theorem dX12_tell_130 : decode cX12_tell 130 = .ok (.iload_n 1, 1) := by decide +kernel
theorem dX12_tell_131 : decode cX12_tell 131 = .ok (.iadd, 1) := by decide +kernel
theorem dX12_tell_132 : decode cX12_tell 132 = .ok (.iaload, 1) := by decide +kernel
theorem dX12_tell_133 : decode cX12_tell 133 = .ok (.bipush (-15), 2) := by decide +kernel
theorem dX12_tell_135 : decode cX12_tell 135 = .ok (.if_icmp .ne 8, 3) := by decide +kernel
theorem dX12_tell_138 : decode cX12_tell 138 = .ok (.aload_n 0, 1) := by decide +kernel
theorem dX12_tell_139 : decode cX12_tell 139 = .ok (.getfield 247, 3) := by decide +kernel
theorem dX12_tell_142 : decode cX12_tell 142 = .ok (.ireturn, 1) := by decide +kernel
theorem dX12_tell_143 : decode cX12_tell 143 = .ok (.aload_n 0, 1) := by decide +kernel
theorem dX12_tell_144 : decode cX12_tell 144 = .ok (.bipush 126, 2) := by decide +kernel
theorem dX12_tell_146 : decode cX12_tell 146 = .ok (.invokevirtual 250, 3) := by decide +kernel
theorem dX12_tell_149 : decode cX12_tell 149 = .ok (.aload_n 0, 1) := by decide +kernel
theorem dX12_tell_150 : decode cX12_tell 150 = .ok (.aload_n 0, 1) := by decide +kernel
theorem dX12_tell_151 : decode cX12_tell 151 = .ok (.getfield 7, 3) := by decide +kernel
theorem dX12_tell_154 : decode cX12_tell 154 = .ok (.bipush 113, 2) := by decide +kernel
theorem dX12_tell_156 : decode cX12_tell 156 = .ok (.iload_n 1, 1) := by decide +kernel
theorem dX12_tell_157 : decode cX12_tell 157 = .ok (.iadd, 1) := by decide +kernel
theorem dX12_tell_158 : decode cX12_tell 158 = .ok (.iaload, 1) := by decide +kernel
theorem dX12_tell_159 : decode cX12_tell 159 = .ok (.invokevirtual 253, 3) := by decide +kernel
theorem dX12_tell_162 : decode cX12_tell 162 = .ok (.aload_n 0, 1) := by decide +kernel
theorem dX12_tell_163 : decode cX12_tell 163 = .ok (.getfield 247, 3) := by decide +kernel
theorem dX12_tell_166 : decode cX12_tell 166 = .ok (.ireturn, 1) := by decide +kernel
def f_X12_depth (μ : mu_T) (a1 : Int) : Option (Int × mu_T) :=
  bd_ (f_X12_isUrn μ a1) (fun v2 => eq_ v2 0
      (some ((-11), μ))
      (bd_ (f_X12_measures μ (-11) 0) (fun μ15 => rd_ μ15 8 24 a1 (fun v23 => lt_ v23 99
      (rd_ μ15 8 24 a1 (fun v34 => some (v34, μ15)))
      (some ((-15), μ15))))))
set_option maxHeartbeats 4000000 in
set_option maxRecDepth 100000 in
theorem c_X12_depth {G : gp_} {ad : Nat → Nat} (μ : mu_T) (a1 : Int) (a : Int) (μr : mu_T) (h : f_X12_depth μ a1 = some (a, μr)) : mi_ yX12_depth cX12_depth 2 (some .int) ({ frames := 2, cells := 0, slots := 0, locals := 47 } : Room) G 9 ad (ceM G ad) [.ref (ad 0), .int (iI a1)] μ a μr := by
  refine mi_in (own := "UrnHeapModel") (lv := [(0, .ref (ad 0)), (1, .int (iI a1))]) (by decide) rfl rfl (Nat.le_of_ble_eq_true rfl) (fun X C E => ?_)
  unfold f_X12_depth at h
  refine xx_aload_n C 1 rfl 0 dX12_depth_0 rfl rfl ?_
  refine xx_iload_n C 2 rfl 1 dX12_depth_1 rfl rfl ?_
  refine xx_cVip (As := [.int (iI a1)]) (st := []) (o := 0) C 5 rfl (by decide) (ceM_0 _ _ _) rfl rfl ca_X12_isUrn cv_X12_isUrn w_1268 rfl ⟨Nat.le_of_ble_eq_true rfl, Nat.le_of_ble_eq_true rfl⟩ ⟨Nat.le_of_ble_eq_true rfl, Nat.le_of_ble_eq_true rfl⟩ (Nat.le_of_ble_eq_true rfl) dX12_depth_2 (fun v2 e9 => c_X12_isUrn _ _ v2 e9) h (fun v2 h => ?_) rfl
  refine xx_if_ne (tgt := 11) C 8 rfl dX12_depth_5 (by decide) h (fun h => ?_) (fun h => ?_)
  · refine xx_aload_n C 12 rfl 0 dX12_depth_11 rfl rfl ?_
    refine xx_bipush C 14 rfl dX12_depth_12 (by decide) ?_
    refine xx_iconst C 15 rfl dX12_depth_14 ?_
    refine xx_cVv (As := [.int (iI (-11)), .int (iI 0)]) (st := []) (o := 0) C 18 rfl (by decide) (ceM_0 _ _ _) rfl rfl ca_X12_measures cv_X12_measures w_1419 rfl ⟨Nat.le_of_ble_eq_true rfl, Nat.le_of_ble_eq_true rfl⟩ ⟨Nat.le_of_ble_eq_true rfl, Nat.le_of_ble_eq_true rfl⟩ (Nat.le_of_ble_eq_true rfl) dX12_depth_15 (fun μ15 e9 => c_X12_measures _ _ _ μ15 e9) h (fun μ15 h => ?_) rfl
    refine xx_aload_n C 19 rfl 0 dX12_depth_18 rfl rfl ?_
    refine xx_getr (fi := 9) C 22 rfl (by decide) (ceM_0 _ _ _) rfl in_X12 (by decide) rfl rfl w_1180 dX12_depth_19 ?_
    refine xx_iload_n C 23 rfl 1 dX12_depth_22 rfl rfl ?_
    refine xx_iaload C 24 rfl (by decide) (fun _ => rfl) (by decide) dX12_depth_23 h (fun v23 h => ?_)
    refine xx_bipush C 26 rfl dX12_depth_24 (by decide) ?_
    refine xx_icmp_ge (tgt := 38) C 29 rfl dX12_depth_26 (by decide) h (fun h => ?_) (fun h => ?_)
    · refine xx_bipush C 40 rfl dX12_depth_38 (by decide) ?_
      exact xx_iret C E rfl ⟨Nat.le_of_ble_eq_true rfl, Nat.le_of_ble_eq_true rfl⟩ dX12_depth_40 h
    · refine xx_aload_n C 30 rfl 0 dX12_depth_29 rfl rfl ?_
      refine xx_getr (fi := 9) C 33 rfl (by decide) (ceM_0 _ _ _) rfl in_X12 (by decide) rfl rfl w_1180 dX12_depth_30 ?_
      refine xx_iload_n C 34 rfl 1 dX12_depth_33 rfl rfl ?_
      refine xx_iaload C 35 rfl (by decide) (fun _ => rfl) (by decide) dX12_depth_34 h (fun v34 h => ?_)
      refine xx_goto C 40 dX12_depth_35 (by decide) ?_
      exact xx_iret C E rfl ⟨Nat.le_of_ble_eq_true rfl, Nat.le_of_ble_eq_true rfl⟩ dX12_depth_40 h
  · refine xx_bipush C 10 rfl dX12_depth_8 (by decide) ?_
    exact xx_iret C E rfl ⟨Nat.le_of_ble_eq_true rfl, Nat.le_of_ble_eq_true rfl⟩ dX12_depth_10 h

def f_X12_keepers_L35 (a1 : Int) : Nat → Int → Int → mu_T → Option (Int × mu_T)
  | 0, _, _, _ => none
  | fu35 + 1, x2_35, x3_35, μ35 => lt_ x3_35 6
      (bd_ (f_X12_measures μ35 x3_35 0) (fun μ44 => rd_ μ44 8 24 a1 (fun v53 => jn_ (φ := Int → Option (Int × mu_T)) (fun s0_66 => nm_ ((or_ x2_35 s0_66)) (fun n67 => nm_ (x3_35 + 1) (fun n68 => (f_X12_keepers_L35 a1 fu35) n67 n68 μ44)))
      (fun J66 => eq_ v53 99
      (J66 (sl_ 1 x3_35))
      (J66 0)))))
      (some (x2_35, μ35))
def f_X12_keepers (μ : mu_T) (a1 : Int) : Option (Int × mu_T) :=
  bd_ (f_X12_isUrn μ a1) (fun v2 => eq_ v2 0
      (some ((-11), μ))
      (bd_ (f_X12_measures μ (-11) 0) (fun μ15 => rd_ μ15 8 24 a1 (fun v23 => eq_ v23 99
      (some (0, μ15))
      (f_X12_keepers_L35 a1 20000 0 0 μ15)))))
set_option maxHeartbeats 4000000 in
set_option maxRecDepth 100000 in
theorem c_X12_keepers {G : gp_} {ad : Nat → Nat} (μ : mu_T) (a1 : Int) (a : Int) (μr : mu_T) (h : f_X12_keepers μ a1 = some (a, μr)) : mi_ yX12_keepers cX12_keepers 4 (some .int) ({ frames := 2, cells := 0, slots := 0, locals := 47 } : Room) G 9 ad (ceM G ad) [.ref (ad 0), .int (iI a1)] μ a μr := by
  refine mi_in (own := "UrnHeapModel") (lv := [(0, .ref (ad 0)), (1, .int (iI a1))]) (by decide) rfl rfl (Nat.le_of_ble_eq_true rfl) (fun X C E => ?_)
  unfold f_X12_keepers at h
  refine xx_aload_n C 1 rfl 0 dX12_keepers_0 rfl rfl ?_
  refine xx_iload_n C 2 rfl 1 dX12_keepers_1 rfl rfl ?_
  refine xx_cVip (As := [.int (iI a1)]) (st := []) (o := 0) C 5 rfl (by decide) (ceM_0 _ _ _) rfl rfl ca_X12_isUrn cv_X12_isUrn w_1268 rfl ⟨Nat.le_of_ble_eq_true rfl, Nat.le_of_ble_eq_true rfl⟩ ⟨Nat.le_of_ble_eq_true rfl, Nat.le_of_ble_eq_true rfl⟩ (Nat.le_of_ble_eq_true rfl) dX12_keepers_2 (fun v2 e9 => c_X12_isUrn _ _ v2 e9) h (fun v2 h => ?_) rfl
  refine xx_if_ne (tgt := 11) C 8 rfl dX12_keepers_5 (by decide) h (fun h => ?_) (fun h => ?_)
  · refine xx_aload_n C 12 rfl 0 dX12_keepers_11 rfl rfl ?_
    refine xx_bipush C 14 rfl dX12_keepers_12 (by decide) ?_
    refine xx_iconst C 15 rfl dX12_keepers_14 ?_
    refine xx_cVv (As := [.int (iI (-11)), .int (iI 0)]) (st := []) (o := 0) C 18 rfl (by decide) (ceM_0 _ _ _) rfl rfl ca_X12_measures cv_X12_measures w_1419 rfl ⟨Nat.le_of_ble_eq_true rfl, Nat.le_of_ble_eq_true rfl⟩ ⟨Nat.le_of_ble_eq_true rfl, Nat.le_of_ble_eq_true rfl⟩ (Nat.le_of_ble_eq_true rfl) dX12_keepers_15 (fun μ15 e9 => c_X12_measures _ _ _ μ15 e9) h (fun μ15 h => ?_) rfl
    refine xx_aload_n C 19 rfl 0 dX12_keepers_18 rfl rfl ?_
    refine xx_getr (fi := 9) C 22 rfl (by decide) (ceM_0 _ _ _) rfl in_X12 (by decide) rfl rfl w_1180 dX12_keepers_19 ?_
    refine xx_iload_n C 23 rfl 1 dX12_keepers_22 rfl rfl ?_
    refine xx_iaload C 24 rfl (by decide) (fun _ => rfl) (by decide) dX12_keepers_23 h (fun v23 h => ?_)
    refine xx_bipush C 26 rfl dX12_keepers_24 (by decide) ?_
    refine xx_icmp_ne (tgt := 31) C 29 rfl dX12_keepers_26 (by decide) h (fun h => ?_) (fun h => ?_)
    · refine xx_iconst C 32 rfl dX12_keepers_31 ?_
      refine xx_istore_n (lv1 := [(2, .int (iI 0)), (0, .ref (ad 0)), (1, .int (iI a1))]) C 33 rfl (by decide) dX12_keepers_32 rfl rfl ?_
      refine xx_iconst C 34 rfl dX12_keepers_33 ?_
      refine xx_istore_n (lv1 := [(3, .int (iI 0)), (2, .int (iI 0)), (0, .ref (ad 0)), (1, .int (iI a1))]) C 35 rfl (by decide) dX12_keepers_34 rfl rfl ?_
      have L35 : ∀ (fu35 : Nat) (x2_35 : Int) (x3_35 : Int) (μ35 : mu_T), f_X12_keepers_L35 a1 fu35 x2_35 x3_35 μ35 = some (a, μr) → wx_ G X 9 ad (ceM G ad) μ35 0 0 35 [(0, .ref (ad 0)), (1, .int (iI a1)), (2, .int (iI x2_35)), (3, .int (iI x3_35))] [] := by
        intro fu35
        induction fu35 with
        | zero => intro x2_35 x3_35 μ35 h; exact nn_ h
        | succ fu35 K35 =>
          intro x2_35 x3_35 μ35 h
          rw [f_X12_keepers_L35] at h
          generalize f_X12_keepers_L35 a1 fu35 = R35 at K35 h
          refine xx_iload_n C 36 rfl 3 dX12_keepers_35 rfl rfl ?_
          refine xx_bipush C 38 rfl dX12_keepers_36 (by decide) ?_
          refine xx_icmp_ge (tgt := 74) C 41 rfl dX12_keepers_38 (by decide) h (fun h => ?_) (fun h => ?_)
          · refine xx_iload_n C 75 rfl 2 dX12_keepers_74 rfl rfl ?_
            exact xx_iret C E rfl ⟨Nat.le_of_ble_eq_true rfl, Nat.le_of_ble_eq_true rfl⟩ dX12_keepers_75 h
          · refine xx_aload_n C 42 rfl 0 dX12_keepers_41 rfl rfl ?_
            refine xx_iload_n C 43 rfl 3 dX12_keepers_42 rfl rfl ?_
            refine xx_iconst C 44 rfl dX12_keepers_43 ?_
            refine xx_cVv (As := [.int (iI x3_35), .int (iI 0)]) (st := []) (o := 0) C 47 rfl (by decide) (ceM_0 _ _ _) rfl rfl ca_X12_measures cv_X12_measures w_1419 rfl ⟨Nat.le_of_ble_eq_true rfl, Nat.le_of_ble_eq_true rfl⟩ ⟨Nat.le_of_ble_eq_true rfl, Nat.le_of_ble_eq_true rfl⟩ (Nat.le_of_ble_eq_true rfl) dX12_keepers_44 (fun μ44 e9 => c_X12_measures _ _ _ μ44 e9) h (fun μ44 h => ?_) rfl
            refine xx_iload_n C 48 rfl 2 dX12_keepers_47 rfl rfl ?_
            refine xx_aload_n C 49 rfl 0 dX12_keepers_48 rfl rfl ?_
            refine xx_getr (fi := 9) C 52 rfl (by decide) (ceM_0 _ _ _) rfl in_X12 (by decide) rfl rfl w_1180 dX12_keepers_49 ?_
            refine xx_iload_n C 53 rfl 1 dX12_keepers_52 rfl rfl ?_
            refine xx_iaload C 54 rfl (by decide) (fun _ => rfl) (by decide) dX12_keepers_53 h (fun v53 h => ?_)
            refine xx_bipush C 56 rfl dX12_keepers_54 (by decide) ?_
            refine jn_r (fun J => ∀ (s0_66 : Int), J s0_66 = some (a, μr) → wx_ G X 9 ad (ceM G ad) μ44 0 0 66 [(0, .ref (ad 0)), (1, .int (iI a1)), (3, .int (iI x3_35))] [.int (iI s0_66), .int (iI x2_35)]) h (fun s0_66 h => ?_) (fun J66 K66 h => ?_)
            · refine xx_ior C 67 rfl dX12_keepers_66 ?_
              refine xx_nm C h (fun n67 h => ?_)
              refine xx_istore_n (lv1 := [(2, .int (iI n67)), (0, .ref (ad 0)), (1, .int (iI a1)), (3, .int (iI x3_35))]) C 68 rfl (by decide) dX12_keepers_67 rfl rfl ?_
              refine xx_iincn C 71 rfl 3 (by decide) dX12_keepers_68 rfl h (fun n68 h => ?_)
              refine xx_lv (lv1 := [(3, .int (iI n68)), (2, .int (iI n67)), (0, .ref (ad 0)), (1, .int (iI a1))]) rfl ?_
              refine xx_goto C 35 dX12_keepers_71 (by decide) ?_
              refine xx_sub [2, 3, 1, 0] rfl ?_
              exact K35 n67 n68 μ44 h
            · refine xx_icmp_ne (tgt := 65) C 59 rfl dX12_keepers_56 (by decide) h (fun h => ?_) (fun h => ?_)
              · refine xx_iconst C 66 rfl dX12_keepers_65 ?_
                refine xx_sub [0, 1, 3] rfl ?_
                exact K66 0 h
              · refine xx_iconst C 60 rfl dX12_keepers_59 ?_
                refine xx_iload_n C 61 rfl 3 dX12_keepers_60 rfl rfl ?_
                refine xx_ishl C 62 rfl dX12_keepers_61 ?_
                refine xx_goto C 66 dX12_keepers_62 (by decide) ?_
                refine xx_sub [0, 1, 3] rfl ?_
                exact K66 (sl_ 1 x3_35) h
      refine xx_sub [2, 3, 1, 0] rfl ?_
      exact L35 _ _ _ _ h
    · refine xx_iconst C 30 rfl dX12_keepers_29 ?_
      exact xx_iret C E rfl ⟨Nat.le_of_ble_eq_true rfl, Nat.le_of_ble_eq_true rfl⟩ dX12_keepers_30 h
  · refine xx_bipush C 10 rfl dX12_keepers_8 (by decide) ?_
    exact xx_iret C E rfl ⟨Nat.le_of_ble_eq_true rfl, Nat.le_of_ble_eq_true rfl⟩ dX12_keepers_10 h

def f_X12_ring_L80 (J126 : mu_T → Option (Int × mu_T)) (x3_71 : Int) : Nat → Int → mu_T → Option (Int × mu_T)
  | 0, _, _ => none
  | fu80 + 1, x4_80, μ80 => lt_ x4_80 4
      (rd_ μ80 8 24 x3_71 (fun v91 => jn_ (φ := mu_T → Option (Int × mu_T)) (fun μ120 => nm_ (x4_80 + 1) (fun n120 => (f_X12_ring_L80 J126 x3_71 fu80) n120 μ120))
      (fun J120 => lt_ v91 99
      (bd_ (f_X12_at μ80 x3_71 x4_80) (fun v105 => rd_ μ80 1 293 v105 (fun v108 => rd_ μ80 8 24 x3_71 (fun v114 => bd_ (f_X12_nears μ80 v108 (v114 + 1)) (fun μ117 => J120 μ117)))))
      (J120 μ80))))
      (J126 μ80)
def f_X12_ring_L71 (J132 : mu_T → Option (Int × mu_T)) : Nat → Int → mu_T → Option (Int × mu_T)
  | 0, _, _ => none
  | fu71 + 1, x3_71, μ71 => lt_ x3_71 24
      (jn_ (φ := mu_T → Option (Int × mu_T)) (fun μ126 => nm_ (x3_71 + 1) (fun n126 => (f_X12_ring_L71 J132 fu71) n126 μ126))
      (fun J126 => f_X12_ring_L80 J126 x3_71 20000 0 μ71))
      (J132 μ71)
def f_X12_ring_L63 (J138 : mu_T → Option (Int × mu_T)) : Nat → Int → mu_T → Option (Int × mu_T)
  | 0, _, _ => none
  | fu63 + 1, x2_63, μ63 => lt_ x2_63 24
      (jn_ (φ := mu_T → Option (Int × mu_T)) (fun μ132 => nm_ (x2_63 + 1) (fun n132 => (f_X12_ring_L63 J138 fu63) n132 μ132))
      (fun J132 => f_X12_ring_L71 J132 20000 0 μ63))
      (J138 μ63)
def f_X12_ring_L35 (J61 : mu_T → Option (Int × mu_T)) (a1 : Int) : Nat → Int → mu_T → Option (Int × mu_T)
  | 0, _, _ => none
  | fu35 + 1, x2_35, μ35 => lt_ x2_35 4
      (bd_ (f_X12_at μ35 a1 x2_35) (fun v47 => rd_ μ35 1 293 v47 (fun v50 => bd_ (f_X12_nears μ35 v50 1) (fun μ52 => nm_ (x2_35 + 1) (fun n55 => (f_X12_ring_L35 J61 a1 fu35) n55 μ52)))))
      (J61 μ35)
def f_X12_ring_L13 (J33 : mu_T → Option (Int × mu_T)) : Nat → Int → mu_T → Option (Int × mu_T)
  | 0, _, _ => none
  | fu13 + 1, x2_13, μ13 => lt_ x2_13 24
      (wr_ μ13 8 24 x2_13 99 (fun μ26 => nm_ (x2_13 + 1) (fun n27 => (f_X12_ring_L13 J33 fu13) n27 μ26)))
      (J33 μ13)
def f_X12_ring (μ : mu_T) (a1 : Int) : Option (Int × mu_T) :=
  bd_ (f_X12_isUrn μ a1) (fun v2 => eq_ v2 0
      (some ((-11), μ))
      (jn_ (φ := mu_T → Option (Int × mu_T)) (fun μ33 => jn_ (φ := mu_T → Option (Int × mu_T)) (fun μ61 => jn_ (φ := mu_T → Option (Int × mu_T)) (fun μ138 => rd_ μ138 8 24 a1 (fun v143 => lt_ v143 99
      (rd_ μ138 8 24 a1 (fun v154 => some (v154, μ138)))
      (some ((-15), μ138))))
      (fun J138 => f_X12_ring_L63 J138 20000 0 μ61))
      (fun J61 => f_X12_ring_L35 J61 a1 20000 0 μ33))
      (fun J33 => f_X12_ring_L13 J33 20000 0 μ)))
set_option maxHeartbeats 4000000 in
set_option maxRecDepth 100000 in
theorem c_X12_ring {G : gp_} {ad : Nat → Nat} (μ : mu_T) (a1 : Int) (a : Int) (μr : mu_T) (h : f_X12_ring μ a1 = some (a, μr)) : mi_ yX12_ring cX12_ring 5 (some .int) ({ frames := 2, cells := 0, slots := 0, locals := 43 } : Room) G 9 ad (ceM G ad) [.ref (ad 0), .int (iI a1)] μ a μr := by
  refine mi_in (own := "UrnHeapModel") (lv := [(0, .ref (ad 0)), (1, .int (iI a1))]) (by decide) rfl rfl (Nat.le_of_ble_eq_true rfl) (fun X C E => ?_)
  unfold f_X12_ring at h
  refine xx_aload_n C 1 rfl 0 dX12_ring_0 rfl rfl ?_
  refine xx_iload_n C 2 rfl 1 dX12_ring_1 rfl rfl ?_
  refine xx_cVip (As := [.int (iI a1)]) (st := []) (o := 0) C 5 rfl (by decide) (ceM_0 _ _ _) rfl rfl ca_X12_isUrn cv_X12_isUrn w_1268 rfl ⟨Nat.le_of_ble_eq_true rfl, Nat.le_of_ble_eq_true rfl⟩ ⟨Nat.le_of_ble_eq_true rfl, Nat.le_of_ble_eq_true rfl⟩ (Nat.le_of_ble_eq_true rfl) dX12_ring_2 (fun v2 e9 => c_X12_isUrn _ _ v2 e9) h (fun v2 h => ?_) rfl
  refine xx_if_ne (tgt := 11) C 8 rfl dX12_ring_5 (by decide) h (fun h => ?_) (fun h => ?_)
  · refine xx_iconst C 12 rfl dX12_ring_11 ?_
    refine xx_istore_n (lv1 := [(2, .int (iI 0)), (0, .ref (ad 0)), (1, .int (iI a1))]) C 13 rfl (by decide) dX12_ring_12 rfl rfl ?_
    refine jn_r (fun J => ∀ (μ33 : mu_T), J μ33 = some (a, μr) → wx_ G X 9 ad (ceM G ad) μ33 0 0 33 [(0, .ref (ad 0)), (1, .int (iI a1))] []) h (fun μ33 h => ?_) (fun J33 K33 h => ?_)
    · refine xx_iconst C 34 rfl dX12_ring_33 ?_
      refine xx_istore_n (lv1 := [(2, .int (iI 0)), (0, .ref (ad 0)), (1, .int (iI a1))]) C 35 rfl (by decide) dX12_ring_34 rfl rfl ?_
      refine jn_r (fun J => ∀ (μ61 : mu_T), J μ61 = some (a, μr) → wx_ G X 9 ad (ceM G ad) μ61 0 0 61 [(0, .ref (ad 0)), (1, .int (iI a1))] []) h (fun μ61 h => ?_) (fun J61 K61 h => ?_)
      · refine xx_iconst C 62 rfl dX12_ring_61 ?_
        refine xx_istore_n (lv1 := [(2, .int (iI 0)), (0, .ref (ad 0)), (1, .int (iI a1))]) C 63 rfl (by decide) dX12_ring_62 rfl rfl ?_
        refine jn_r (fun J => ∀ (μ138 : mu_T), J μ138 = some (a, μr) → wx_ G X 9 ad (ceM G ad) μ138 0 0 138 [(0, .ref (ad 0)), (1, .int (iI a1))] []) h (fun μ138 h => ?_) (fun J138 K138 h => ?_)
        · refine xx_aload_n C 139 rfl 0 dX12_ring_138 rfl rfl ?_
          refine xx_getr (fi := 9) C 142 rfl (by decide) (ceM_0 _ _ _) rfl in_X12 (by decide) rfl rfl w_1180 dX12_ring_139 ?_
          refine xx_iload_n C 143 rfl 1 dX12_ring_142 rfl rfl ?_
          refine xx_iaload C 144 rfl (by decide) (fun _ => rfl) (by decide) dX12_ring_143 h (fun v143 h => ?_)
          refine xx_bipush C 146 rfl dX12_ring_144 (by decide) ?_
          refine xx_icmp_ge (tgt := 158) C 149 rfl dX12_ring_146 (by decide) h (fun h => ?_) (fun h => ?_)
          · refine xx_bipush C 160 rfl dX12_ring_158 (by decide) ?_
            exact xx_iret C E rfl ⟨Nat.le_of_ble_eq_true rfl, Nat.le_of_ble_eq_true rfl⟩ dX12_ring_160 h
          · refine xx_aload_n C 150 rfl 0 dX12_ring_149 rfl rfl ?_
            refine xx_getr (fi := 9) C 153 rfl (by decide) (ceM_0 _ _ _) rfl in_X12 (by decide) rfl rfl w_1180 dX12_ring_150 ?_
            refine xx_iload_n C 154 rfl 1 dX12_ring_153 rfl rfl ?_
            refine xx_iaload C 155 rfl (by decide) (fun _ => rfl) (by decide) dX12_ring_154 h (fun v154 h => ?_)
            refine xx_goto C 160 dX12_ring_155 (by decide) ?_
            exact xx_iret C E rfl ⟨Nat.le_of_ble_eq_true rfl, Nat.le_of_ble_eq_true rfl⟩ dX12_ring_160 h
        · have L63 : ∀ (fu63 : Nat) (x2_63 : Int) (μ63 : mu_T), f_X12_ring_L63 J138 fu63 x2_63 μ63 = some (a, μr) → wx_ G X 9 ad (ceM G ad) μ63 0 0 63 [(0, .ref (ad 0)), (1, .int (iI a1)), (2, .int (iI x2_63))] [] := by
            intro fu63
            induction fu63 with
            | zero => intro x2_63 μ63 h; exact nn_ h
            | succ fu63 K63 =>
              intro x2_63 μ63 h
              rw [f_X12_ring_L63] at h
              generalize f_X12_ring_L63 J138 fu63 = R63 at K63 h
              refine xx_iload_n C 64 rfl 2 dX12_ring_63 rfl rfl ?_
              refine xx_bipush C 66 rfl dX12_ring_64 (by decide) ?_
              refine xx_icmp_ge (tgt := 138) C 69 rfl dX12_ring_66 (by decide) h (fun h => ?_) (fun h => ?_)
              · refine xx_sub [0, 1] rfl ?_
                exact K138 μ63 h
              · refine xx_iconst C 70 rfl dX12_ring_69 ?_
                refine xx_istore_n (lv1 := [(3, .int (iI 0)), (0, .ref (ad 0)), (1, .int (iI a1)), (2, .int (iI x2_63))]) C 71 rfl (by decide) dX12_ring_70 rfl rfl ?_
                refine jn_r (fun J => ∀ (μ132 : mu_T), J μ132 = some (a, μr) → wx_ G X 9 ad (ceM G ad) μ132 0 0 132 [(0, .ref (ad 0)), (1, .int (iI a1)), (2, .int (iI x2_63))] []) h (fun μ132 h => ?_) (fun J132 K132 h => ?_)
                · refine xx_iincn C 135 rfl 2 (by decide) dX12_ring_132 rfl h (fun n132 h => ?_)
                  refine xx_lv (lv1 := [(2, .int (iI n132)), (0, .ref (ad 0)), (1, .int (iI a1))]) rfl ?_
                  refine xx_goto C 63 dX12_ring_135 (by decide) ?_
                  refine xx_sub [1, 2, 0] rfl ?_
                  exact K63 n132 μ132 h
                · have L71 : ∀ (fu71 : Nat) (x3_71 : Int) (μ71 : mu_T), f_X12_ring_L71 J132 fu71 x3_71 μ71 = some (a, μr) → wx_ G X 9 ad (ceM G ad) μ71 0 0 71 [(0, .ref (ad 0)), (1, .int (iI a1)), (2, .int (iI x2_63)), (3, .int (iI x3_71))] [] := by
                    intro fu71
                    induction fu71 with
                    | zero => intro x3_71 μ71 h; exact nn_ h
                    | succ fu71 K71 =>
                      intro x3_71 μ71 h
                      rw [f_X12_ring_L71] at h
                      generalize f_X12_ring_L71 J132 fu71 = R71 at K71 h
                      refine xx_iload_n C 72 rfl 3 dX12_ring_71 rfl rfl ?_
                      refine xx_bipush C 74 rfl dX12_ring_72 (by decide) ?_
                      refine xx_icmp_ge (tgt := 132) C 77 rfl dX12_ring_74 (by decide) h (fun h => ?_) (fun h => ?_)
                      · refine xx_sub [0, 1, 2] rfl ?_
                        exact K132 μ71 h
                      · refine xx_iconst C 78 rfl dX12_ring_77 ?_
                        refine xx_istore (lv1 := [(4, .int (iI 0)), (0, .ref (ad 0)), (1, .int (iI a1)), (2, .int (iI x2_63)), (3, .int (iI x3_71))]) C 80 rfl (by decide) dX12_ring_78 rfl ?_
                        refine jn_r (fun J => ∀ (μ126 : mu_T), J μ126 = some (a, μr) → wx_ G X 9 ad (ceM G ad) μ126 0 0 126 [(0, .ref (ad 0)), (1, .int (iI a1)), (2, .int (iI x2_63)), (3, .int (iI x3_71))] []) h (fun μ126 h => ?_) (fun J126 K126 h => ?_)
                        · refine xx_iincn C 129 rfl 3 (by decide) dX12_ring_126 rfl h (fun n126 h => ?_)
                          refine xx_lv (lv1 := [(3, .int (iI n126)), (0, .ref (ad 0)), (1, .int (iI a1)), (2, .int (iI x2_63))]) rfl ?_
                          refine xx_goto C 71 dX12_ring_129 (by decide) ?_
                          refine xx_sub [1, 2, 3, 0] rfl ?_
                          exact K71 n126 μ126 h
                        · have L80 : ∀ (fu80 : Nat) (x4_80 : Int) (μ80 : mu_T), f_X12_ring_L80 J126 x3_71 fu80 x4_80 μ80 = some (a, μr) → wx_ G X 9 ad (ceM G ad) μ80 0 0 80 [(0, .ref (ad 0)), (1, .int (iI a1)), (2, .int (iI x2_63)), (3, .int (iI x3_71)), (4, .int (iI x4_80))] [] := by
                            intro fu80
                            induction fu80 with
                            | zero => intro x4_80 μ80 h; exact nn_ h
                            | succ fu80 K80 =>
                              intro x4_80 μ80 h
                              rw [f_X12_ring_L80] at h
                              generalize f_X12_ring_L80 J126 x3_71 fu80 = R80 at K80 h
                              refine xx_iload C 82 rfl 4 dX12_ring_80 rfl ?_
                              refine xx_iconst C 83 rfl dX12_ring_82 ?_
                              refine xx_icmp_ge (tgt := 126) C 86 rfl dX12_ring_83 (by decide) h (fun h => ?_) (fun h => ?_)
                              · refine xx_sub [0, 1, 2, 3] rfl ?_
                                exact K126 μ80 h
                              · refine xx_aload_n C 87 rfl 0 dX12_ring_86 rfl rfl ?_
                                refine xx_getr (fi := 9) C 90 rfl (by decide) (ceM_0 _ _ _) rfl in_X12 (by decide) rfl rfl w_1180 dX12_ring_87 ?_
                                refine xx_iload_n C 91 rfl 3 dX12_ring_90 rfl rfl ?_
                                refine xx_iaload C 92 rfl (by decide) (fun _ => rfl) (by decide) dX12_ring_91 h (fun v91 h => ?_)
                                refine xx_bipush C 94 rfl dX12_ring_92 (by decide) ?_
                                refine jn_r (fun J => ∀ (μ120 : mu_T), J μ120 = some (a, μr) → wx_ G X 9 ad (ceM G ad) μ120 0 0 120 [(0, .ref (ad 0)), (1, .int (iI a1)), (2, .int (iI x2_63)), (3, .int (iI x3_71)), (4, .int (iI x4_80))] []) h (fun μ120 h => ?_) (fun J120 K120 h => ?_)
                                · refine xx_iincn C 123 rfl 4 (by decide) dX12_ring_120 rfl h (fun n120 h => ?_)
                                  refine xx_lv (lv1 := [(4, .int (iI n120)), (0, .ref (ad 0)), (1, .int (iI a1)), (2, .int (iI x2_63)), (3, .int (iI x3_71))]) rfl ?_
                                  refine xx_goto C 80 dX12_ring_123 (by decide) ?_
                                  refine xx_sub [1, 2, 3, 4, 0] rfl ?_
                                  exact K80 n120 μ120 h
                                · refine xx_icmp_ge (tgt := 120) C 97 rfl dX12_ring_94 (by decide) h (fun h => ?_) (fun h => ?_)
                                  · exact K120 μ80 h
                                  · refine xx_aload_n C 98 rfl 0 dX12_ring_97 rfl rfl ?_
                                    refine xx_aload_n C 99 rfl 0 dX12_ring_98 rfl rfl ?_
                                    refine xx_getr (fi := 0) C 102 rfl (by decide) (ceM_0 _ _ _) rfl in_X12 (by decide) rfl rfl w_1171 dX12_ring_99 ?_
                                    refine xx_iload_n C 103 rfl 3 dX12_ring_102 rfl rfl ?_
                                    refine xx_iload C 105 rfl 4 dX12_ring_103 rfl ?_
                                    refine xx_cSip (As := [.int (iI x3_71), .int (iI x4_80)]) (st := [.ref (ad 1), .ref (ad 0)]) C 108 rfl  ca_X12_at cs_X12_at w_1168 rfl ⟨Nat.le_of_ble_eq_true rfl, Nat.le_of_ble_eq_true rfl⟩ ⟨Nat.le_of_ble_eq_true rfl, Nat.le_of_ble_eq_true rfl⟩ (Nat.le_of_ble_eq_true rfl) dX12_ring_105 (fun v105 e9 => c_X12_at _ _ _ v105 e9) h (fun v105 h => ?_) rfl
                                    refine xx_iaload C 109 rfl (by decide) (fun _ => rfl) (by decide) dX12_ring_108 h (fun v108 h => ?_)
                                    refine xx_aload_n C 110 rfl 0 dX12_ring_109 rfl rfl ?_
                                    refine xx_getr (fi := 9) C 113 rfl (by decide) (ceM_0 _ _ _) rfl in_X12 (by decide) rfl rfl w_1180 dX12_ring_110 ?_
                                    refine xx_iload_n C 114 rfl 3 dX12_ring_113 rfl rfl ?_
                                    refine xx_iaload C 115 rfl (by decide) (fun _ => rfl) (by decide) dX12_ring_114 h (fun v114 h => ?_)
                                    refine xx_iconst C 116 rfl dX12_ring_115 ?_
                                    refine xx_iadd C 117 rfl dX12_ring_116 ?_
                                    refine xx_cVv (As := [.int (iI v108), .int (iI (v114 + 1))]) (st := []) (o := 0) C 120 rfl (by decide) (ceM_0 _ _ _) rfl rfl ca_X12_nears cv_X12_nears w_1423 rfl ⟨Nat.le_of_ble_eq_true rfl, Nat.le_of_ble_eq_true rfl⟩ ⟨Nat.le_of_ble_eq_true rfl, Nat.le_of_ble_eq_true rfl⟩ (Nat.le_of_ble_eq_true rfl) dX12_ring_117 (fun μ117 e9 => c_X12_nears _ _ _ μ117 e9) h (fun μ117 h => ?_) rfl
                                    exact K120 μ117 h
                          refine xx_sub [1, 2, 3, 4, 0] rfl ?_
                          exact L80 _ _ _ h
                  refine xx_sub [1, 2, 3, 0] rfl ?_
                  exact L71 _ _ _ h
          refine xx_sub [1, 2, 0] rfl ?_
          exact L63 _ _ _ h
      · have L35 : ∀ (fu35 : Nat) (x2_35 : Int) (μ35 : mu_T), f_X12_ring_L35 J61 a1 fu35 x2_35 μ35 = some (a, μr) → wx_ G X 9 ad (ceM G ad) μ35 0 0 35 [(0, .ref (ad 0)), (1, .int (iI a1)), (2, .int (iI x2_35))] [] := by
          intro fu35
          induction fu35 with
          | zero => intro x2_35 μ35 h; exact nn_ h
          | succ fu35 K35 =>
            intro x2_35 μ35 h
            rw [f_X12_ring_L35] at h
            generalize f_X12_ring_L35 J61 a1 fu35 = R35 at K35 h
            refine xx_iload_n C 36 rfl 2 dX12_ring_35 rfl rfl ?_
            refine xx_iconst C 37 rfl dX12_ring_36 ?_
            refine xx_icmp_ge (tgt := 61) C 40 rfl dX12_ring_37 (by decide) h (fun h => ?_) (fun h => ?_)
            · refine xx_sub [0, 1] rfl ?_
              exact K61 μ35 h
            · refine xx_aload_n C 41 rfl 0 dX12_ring_40 rfl rfl ?_
              refine xx_aload_n C 42 rfl 0 dX12_ring_41 rfl rfl ?_
              refine xx_getr (fi := 0) C 45 rfl (by decide) (ceM_0 _ _ _) rfl in_X12 (by decide) rfl rfl w_1171 dX12_ring_42 ?_
              refine xx_iload_n C 46 rfl 1 dX12_ring_45 rfl rfl ?_
              refine xx_iload_n C 47 rfl 2 dX12_ring_46 rfl rfl ?_
              refine xx_cSip (As := [.int (iI a1), .int (iI x2_35)]) (st := [.ref (ad 1), .ref (ad 0)]) C 50 rfl  ca_X12_at cs_X12_at w_1168 rfl ⟨Nat.le_of_ble_eq_true rfl, Nat.le_of_ble_eq_true rfl⟩ ⟨Nat.le_of_ble_eq_true rfl, Nat.le_of_ble_eq_true rfl⟩ (Nat.le_of_ble_eq_true rfl) dX12_ring_47 (fun v47 e9 => c_X12_at _ _ _ v47 e9) h (fun v47 h => ?_) rfl
              refine xx_iaload C 51 rfl (by decide) (fun _ => rfl) (by decide) dX12_ring_50 h (fun v50 h => ?_)
              refine xx_iconst C 52 rfl dX12_ring_51 ?_
              refine xx_cVv (As := [.int (iI v50), .int (iI 1)]) (st := []) (o := 0) C 55 rfl (by decide) (ceM_0 _ _ _) rfl rfl ca_X12_nears cv_X12_nears w_1423 rfl ⟨Nat.le_of_ble_eq_true rfl, Nat.le_of_ble_eq_true rfl⟩ ⟨Nat.le_of_ble_eq_true rfl, Nat.le_of_ble_eq_true rfl⟩ (Nat.le_of_ble_eq_true rfl) dX12_ring_52 (fun μ52 e9 => c_X12_nears _ _ _ μ52 e9) h (fun μ52 h => ?_) rfl
              refine xx_iincn C 58 rfl 2 (by decide) dX12_ring_55 rfl h (fun n55 h => ?_)
              refine xx_lv (lv1 := [(2, .int (iI n55)), (0, .ref (ad 0)), (1, .int (iI a1))]) rfl ?_
              refine xx_goto C 35 dX12_ring_58 (by decide) ?_
              refine xx_sub [1, 2, 0] rfl ?_
              exact K35 n55 μ52 h
        refine xx_sub [1, 2, 0] rfl ?_
        exact L35 _ _ _ h
    · have L13 : ∀ (fu13 : Nat) (x2_13 : Int) (μ13 : mu_T), f_X12_ring_L13 J33 fu13 x2_13 μ13 = some (a, μr) → wx_ G X 9 ad (ceM G ad) μ13 0 0 13 [(0, .ref (ad 0)), (1, .int (iI a1)), (2, .int (iI x2_13))] [] := by
        intro fu13
        induction fu13 with
        | zero => intro x2_13 μ13 h; exact nn_ h
        | succ fu13 K13 =>
          intro x2_13 μ13 h
          rw [f_X12_ring_L13] at h
          generalize f_X12_ring_L13 J33 fu13 = R13 at K13 h
          refine xx_iload_n C 14 rfl 2 dX12_ring_13 rfl rfl ?_
          refine xx_bipush C 16 rfl dX12_ring_14 (by decide) ?_
          refine xx_icmp_ge (tgt := 33) C 19 rfl dX12_ring_16 (by decide) h (fun h => ?_) (fun h => ?_)
          · refine xx_sub [0, 1] rfl ?_
            exact K33 μ13 h
          · refine xx_aload_n C 20 rfl 0 dX12_ring_19 rfl rfl ?_
            refine xx_getr (fi := 9) C 23 rfl (by decide) (ceM_0 _ _ _) rfl in_X12 (by decide) rfl rfl w_1180 dX12_ring_20 ?_
            refine xx_iload_n C 24 rfl 2 dX12_ring_23 rfl rfl ?_
            refine xx_bipush C 26 rfl dX12_ring_24 (by decide) ?_
            refine xx_iastore C 27 rfl (by decide) (fun _ => rfl) (by decide) dX12_ring_26 h (fun μ26 h => ?_)
            refine xx_iincn C 30 rfl 2 (by decide) dX12_ring_27 rfl h (fun n27 h => ?_)
            refine xx_lv (lv1 := [(2, .int (iI n27)), (0, .ref (ad 0)), (1, .int (iI a1))]) rfl ?_
            refine xx_goto C 13 dX12_ring_30 (by decide) ?_
            refine xx_sub [1, 2, 0] rfl ?_
            exact K13 n27 μ26 h
      refine xx_sub [1, 2, 0] rfl ?_
      exact L13 _ _ _ h
  · refine xx_bipush C 10 rfl dX12_ring_8 (by decide) ?_
    exact xx_iret C E rfl ⟨Nat.le_of_ble_eq_true rfl, Nat.le_of_ble_eq_true rfl⟩ dX12_ring_10 h

def f_X12_urns_L4 (μ : mu_T) : Nat → Int → Int → Option Int
  | 0, _, _ => none
  | fu4 + 1, x1_4, x2_4 => lt_ x2_4 24
      (rd_ μ 1 293 (17 + x2_4) (fun v19 => nm_ ((or_ x1_4 (sl_ v19 x2_4))) (fun n23 => nm_ (x2_4 + 1) (fun n24 => (f_X12_urns_L4 μ fu4) n23 n24))))
      (some x1_4)
def f_X12_urns (μ : mu_T)  : Option Int :=
  f_X12_urns_L4 μ 20000 0 0
set_option maxHeartbeats 4000000 in
set_option maxRecDepth 100000 in
theorem c_X12_urns {G : gp_} {ad : Nat → Nat} (μ : mu_T)  (a : Int) (h : f_X12_urns μ  = some a) : mi_ yX12_urns cX12_urns 3 (some .int) ({ frames := 0, cells := 0, slots := 0, locals := 0 } : Room) G 9 ad (ceM G ad) [.ref (ad 0)] μ a μ := by
  refine mi_in (own := "UrnHeapModel") (lv := [(0, .ref (ad 0))]) (by decide) rfl rfl (Nat.le_of_ble_eq_true rfl) (fun X C E => ?_)
  unfold f_X12_urns at h
  refine xx_iconst C 1 rfl dX12_urns_0 ?_
  refine xx_istore_n (lv1 := [(1, .int (iI 0)), (0, .ref (ad 0))]) C 2 rfl (by decide) dX12_urns_1 rfl rfl ?_
  refine xx_iconst C 3 rfl dX12_urns_2 ?_
  refine xx_istore_n (lv1 := [(2, .int (iI 0)), (1, .int (iI 0)), (0, .ref (ad 0))]) C 4 rfl (by decide) dX12_urns_3 rfl rfl ?_
  have L4 : ∀ (fu4 : Nat) (x1_4 : Int) (x2_4 : Int), f_X12_urns_L4 μ fu4 x1_4 x2_4 = some a → wx_ G X 9 ad (ceM G ad) μ 0 0 4 [(0, .ref (ad 0)), (1, .int (iI x1_4)), (2, .int (iI x2_4))] [] := by
    intro fu4
    induction fu4 with
    | zero => intro x1_4 x2_4 h; exact nn_ h
    | succ fu4 K4 =>
      intro x1_4 x2_4 h
      rw [f_X12_urns_L4] at h
      generalize f_X12_urns_L4 μ fu4 = R4 at K4 h
      refine xx_iload_n C 5 rfl 2 dX12_urns_4 rfl rfl ?_
      refine xx_bipush C 7 rfl dX12_urns_5 (by decide) ?_
      refine xx_icmp_ge (tgt := 30) C 10 rfl dX12_urns_7 (by decide) h (fun h => ?_) (fun h => ?_)
      · refine xx_iload_n C 31 rfl 1 dX12_urns_30 rfl rfl ?_
        exact xx_iretp C E rfl ⟨Nat.le_of_ble_eq_true rfl, Nat.le_of_ble_eq_true rfl⟩ dX12_urns_31 h
      · refine xx_iload_n C 11 rfl 1 dX12_urns_10 rfl rfl ?_
        refine xx_aload_n C 12 rfl 0 dX12_urns_11 rfl rfl ?_
        refine xx_getr (fi := 0) C 15 rfl (by decide) (ceM_0 _ _ _) rfl in_X12 (by decide) rfl rfl w_1171 dX12_urns_12 ?_
        refine xx_bipush C 17 rfl dX12_urns_15 (by decide) ?_
        refine xx_iload_n C 18 rfl 2 dX12_urns_17 rfl rfl ?_
        refine xx_iadd C 19 rfl dX12_urns_18 ?_
        refine xx_iaload C 20 rfl (by decide) (fun _ => rfl) (by decide) dX12_urns_19 h (fun v19 h => ?_)
        refine xx_iload_n C 21 rfl 2 dX12_urns_20 rfl rfl ?_
        refine xx_ishl C 22 rfl dX12_urns_21 ?_
        refine xx_ior C 23 rfl dX12_urns_22 ?_
        refine xx_nm C h (fun n23 h => ?_)
        refine xx_istore_n (lv1 := [(1, .int (iI n23)), (0, .ref (ad 0)), (2, .int (iI x2_4))]) C 24 rfl (by decide) dX12_urns_23 rfl rfl ?_
        refine xx_iincn C 27 rfl 2 (by decide) dX12_urns_24 rfl h (fun n24 h => ?_)
        refine xx_lv (lv1 := [(2, .int (iI n24)), (1, .int (iI n23)), (0, .ref (ad 0))]) rfl ?_
        refine xx_goto C 4 dX12_urns_27 (by decide) ?_
        refine xx_sub [2, 1, 0] rfl ?_
        exact K4 n23 n24 h
  refine xx_sub [2, 1, 0] rfl ?_
  exact L4 _ _ _ h

def f_X12_wouldFree (μ : mu_T)  : Option (Int × mu_T) :=
  bd_ (f_X12_measures μ (-11) 1) (fun μ4 => bd_ (f_X12_urns μ4) (fun v8 => bd_ (f_X12_reached μ4) (fun v12 => some ((an_ v8 (xo_ v12 (-1))), μ4))))
set_option maxHeartbeats 4000000 in
set_option maxRecDepth 100000 in
theorem c_X12_wouldFree {G : gp_} {ad : Nat → Nat} (μ : mu_T)  (a : Int) (μr : mu_T) (h : f_X12_wouldFree μ  = some (a, μr)) : mi_ yX12_wouldFree cX12_wouldFree 1 (some .int) ({ frames := 2, cells := 0, slots := 0, locals := 47 } : Room) G 9 ad (ceM G ad) [.ref (ad 0)] μ a μr := by
  refine mi_in (own := "UrnHeapModel") (lv := [(0, .ref (ad 0))]) (by decide) rfl rfl (Nat.le_of_ble_eq_true rfl) (fun X C E => ?_)
  unfold f_X12_wouldFree at h
  refine xx_aload_n C 1 rfl 0 dX12_wouldFree_0 rfl rfl ?_
  refine xx_bipush C 3 rfl dX12_wouldFree_1 (by decide) ?_
  refine xx_iconst C 4 rfl dX12_wouldFree_3 ?_
  refine xx_cVv (As := [.int (iI (-11)), .int (iI 1)]) (st := []) (o := 0) C 7 rfl (by decide) (ceM_0 _ _ _) rfl rfl ca_X12_measures cv_X12_measures w_1419 rfl ⟨Nat.le_of_ble_eq_true rfl, Nat.le_of_ble_eq_true rfl⟩ ⟨Nat.le_of_ble_eq_true rfl, Nat.le_of_ble_eq_true rfl⟩ (Nat.le_of_ble_eq_true rfl) dX12_wouldFree_4 (fun μ4 e9 => c_X12_measures _ _ _ μ4 e9) h (fun μ4 h => ?_) rfl
  refine xx_aload_n C 8 rfl 0 dX12_wouldFree_7 rfl rfl ?_
  refine xx_cVip (As := []) (st := []) (o := 0) C 11 rfl (by decide) (ceM_0 _ _ _) rfl rfl ca_X12_urns cv_X12_urns w_1452 rfl ⟨Nat.le_of_ble_eq_true rfl, Nat.le_of_ble_eq_true rfl⟩ ⟨Nat.le_of_ble_eq_true rfl, Nat.le_of_ble_eq_true rfl⟩ (Nat.le_of_ble_eq_true rfl) dX12_wouldFree_8 (fun v8 e9 => c_X12_urns _ v8 e9) h (fun v8 h => ?_) rfl
  refine xx_aload_n C 12 rfl 0 dX12_wouldFree_11 rfl rfl ?_
  refine xx_cVip (As := []) (st := [.int (iI v8)]) (o := 0) C 15 rfl (by decide) (ceM_0 _ _ _) rfl rfl ca_X12_reached cv_X12_reached w_1427 rfl ⟨Nat.le_of_ble_eq_true rfl, Nat.le_of_ble_eq_true rfl⟩ ⟨Nat.le_of_ble_eq_true rfl, Nat.le_of_ble_eq_true rfl⟩ (Nat.le_of_ble_eq_true rfl) dX12_wouldFree_12 (fun v12 e9 => c_X12_reached _ v12 e9) h (fun v12 h => ?_) rfl
  refine xx_iconst C 16 rfl dX12_wouldFree_15 ?_
  refine xx_ixor C 17 rfl dX12_wouldFree_16 ?_
  refine xx_iand C 18 rfl dX12_wouldFree_17 ?_
  exact xx_iret C E rfl ⟨Nat.le_of_ble_eq_true rfl, Nat.le_of_ble_eq_true rfl⟩ dX12_wouldFree_18 h

def f_X12_isAhead (μ : mu_T) (a1 : Int) (a2 : Int) : Option Int :=
  bd_ (f_X12_held μ a1) (fun v2 => bd_ (f_X12_held μ a2) (fun v7 => eq_ v2 v7
      (bd_ (f_X12_holds μ a1) (fun v34 => bd_ (f_X12_holds μ a2) (fun v39 => lt_ v39 v34
      (some 1)
      (bd_ (f_X12_holds μ a1) (fun v47 => bd_ (f_X12_holds μ a2) (fun v52 => eq_ v47 v52
      (lt_ a1 a2
      (some 1)
      (some 0))
      (some 0)))))))
      (bd_ (f_X12_held μ a1) (fun v15 => bd_ (f_X12_held μ a2) (fun v20 => lt_ v20 v15
      (some 1)
      (some 0))))))
set_option maxHeartbeats 4000000 in
set_option maxRecDepth 100000 in
theorem c_X12_isAhead {G : gp_} {ad : Nat → Nat} (μ : mu_T) (a1 : Int) (a2 : Int) (a : Int) (h : f_X12_isAhead μ a1 a2 = some a) : mi_ yX12_isAhead cX12_isAhead 3 (some .boolean) ({ frames := 2, cells := 0, slots := 0, locals := 44 } : Room) G 9 ad (ceM G ad) [.ref (ad 0), .int (iI a1), .int (iI a2)] μ a μ := by
  refine mi_in (own := "UrnHeapModel") (lv := [(0, .ref (ad 0)), (1, .int (iI a1)), (2, .int (iI a2))]) (by decide) rfl rfl (Nat.le_of_ble_eq_true rfl) (fun X C E => ?_)
  unfold f_X12_isAhead at h
  refine xx_aload_n C 1 rfl 0 dX12_isAhead_0 rfl rfl ?_
  refine xx_iload_n C 2 rfl 1 dX12_isAhead_1 rfl rfl ?_
  refine xx_cVip (As := [.int (iI a1)]) (st := []) (o := 0) C 5 rfl (by decide) (ceM_0 _ _ _) rfl rfl ca_X12_held cv_X12_held w_1331 rfl ⟨Nat.le_of_ble_eq_true rfl, Nat.le_of_ble_eq_true rfl⟩ ⟨Nat.le_of_ble_eq_true rfl, Nat.le_of_ble_eq_true rfl⟩ (Nat.le_of_ble_eq_true rfl) dX12_isAhead_2 (fun v2 e9 => c_X12_held _ _ v2 e9) h (fun v2 h => ?_) rfl
  refine xx_aload_n C 6 rfl 0 dX12_isAhead_5 rfl rfl ?_
  refine xx_iload_n C 7 rfl 2 dX12_isAhead_6 rfl rfl ?_
  refine xx_cVip (As := [.int (iI a2)]) (st := [.int (iI v2)]) (o := 0) C 10 rfl (by decide) (ceM_0 _ _ _) rfl rfl ca_X12_held cv_X12_held w_1331 rfl ⟨Nat.le_of_ble_eq_true rfl, Nat.le_of_ble_eq_true rfl⟩ ⟨Nat.le_of_ble_eq_true rfl, Nat.le_of_ble_eq_true rfl⟩ (Nat.le_of_ble_eq_true rfl) dX12_isAhead_7 (fun v7 e9 => c_X12_held _ _ v7 e9) h (fun v7 h => ?_) rfl
  refine xx_icmp_eq (tgt := 32) C 13 rfl dX12_isAhead_10 (by decide) h (fun h => ?_) (fun h => ?_)
  · refine xx_aload_n C 33 rfl 0 dX12_isAhead_32 rfl rfl ?_
    refine xx_iload_n C 34 rfl 1 dX12_isAhead_33 rfl rfl ?_
    refine xx_cVip (As := [.int (iI a1)]) (st := []) (o := 0) C 37 rfl (by decide) (ceM_0 _ _ _) rfl rfl ca_X12_holds cv_X12_holds w_1327 rfl ⟨Nat.le_of_ble_eq_true rfl, Nat.le_of_ble_eq_true rfl⟩ ⟨Nat.le_of_ble_eq_true rfl, Nat.le_of_ble_eq_true rfl⟩ (Nat.le_of_ble_eq_true rfl) dX12_isAhead_34 (fun v34 e9 => c_X12_holds _ _ v34 e9) h (fun v34 h => ?_) rfl
    refine xx_aload_n C 38 rfl 0 dX12_isAhead_37 rfl rfl ?_
    refine xx_iload_n C 39 rfl 2 dX12_isAhead_38 rfl rfl ?_
    refine xx_cVip (As := [.int (iI a2)]) (st := [.int (iI v34)]) (o := 0) C 42 rfl (by decide) (ceM_0 _ _ _) rfl rfl ca_X12_holds cv_X12_holds w_1327 rfl ⟨Nat.le_of_ble_eq_true rfl, Nat.le_of_ble_eq_true rfl⟩ ⟨Nat.le_of_ble_eq_true rfl, Nat.le_of_ble_eq_true rfl⟩ (Nat.le_of_ble_eq_true rfl) dX12_isAhead_39 (fun v39 e9 => c_X12_holds _ _ v39 e9) h (fun v39 h => ?_) rfl
    refine xx_icmp_gt (tgt := 63) C 45 rfl dX12_isAhead_42 (by decide) h (fun h => ?_) (fun h => ?_)
    · refine xx_iconst C 64 rfl dX12_isAhead_63 ?_
      refine xx_goto C 68 dX12_isAhead_64 (by decide) ?_
      exact xx_zretl C E rfl rfl ⟨Nat.le_of_ble_eq_true rfl, Nat.le_of_ble_eq_true rfl⟩ dX12_isAhead_68 h
    · refine xx_aload_n C 46 rfl 0 dX12_isAhead_45 rfl rfl ?_
      refine xx_iload_n C 47 rfl 1 dX12_isAhead_46 rfl rfl ?_
      refine xx_cVip (As := [.int (iI a1)]) (st := []) (o := 0) C 50 rfl (by decide) (ceM_0 _ _ _) rfl rfl ca_X12_holds cv_X12_holds w_1327 rfl ⟨Nat.le_of_ble_eq_true rfl, Nat.le_of_ble_eq_true rfl⟩ ⟨Nat.le_of_ble_eq_true rfl, Nat.le_of_ble_eq_true rfl⟩ (Nat.le_of_ble_eq_true rfl) dX12_isAhead_47 (fun v47 e9 => c_X12_holds _ _ v47 e9) h (fun v47 h => ?_) rfl
      refine xx_aload_n C 51 rfl 0 dX12_isAhead_50 rfl rfl ?_
      refine xx_iload_n C 52 rfl 2 dX12_isAhead_51 rfl rfl ?_
      refine xx_cVip (As := [.int (iI a2)]) (st := [.int (iI v47)]) (o := 0) C 55 rfl (by decide) (ceM_0 _ _ _) rfl rfl ca_X12_holds cv_X12_holds w_1327 rfl ⟨Nat.le_of_ble_eq_true rfl, Nat.le_of_ble_eq_true rfl⟩ ⟨Nat.le_of_ble_eq_true rfl, Nat.le_of_ble_eq_true rfl⟩ (Nat.le_of_ble_eq_true rfl) dX12_isAhead_52 (fun v52 e9 => c_X12_holds _ _ v52 e9) h (fun v52 h => ?_) rfl
      refine xx_icmp_ne (tgt := 67) C 58 rfl dX12_isAhead_55 (by decide) h (fun h => ?_) (fun h => ?_)
      · refine xx_iconst C 68 rfl dX12_isAhead_67 ?_
        exact xx_zretl C E rfl rfl ⟨Nat.le_of_ble_eq_true rfl, Nat.le_of_ble_eq_true rfl⟩ dX12_isAhead_68 h
      · refine xx_iload_n C 59 rfl 1 dX12_isAhead_58 rfl rfl ?_
        refine xx_iload_n C 60 rfl 2 dX12_isAhead_59 rfl rfl ?_
        refine xx_icmp_ge (tgt := 67) C 63 rfl dX12_isAhead_60 (by decide) h (fun h => ?_) (fun h => ?_)
        · refine xx_iconst C 68 rfl dX12_isAhead_67 ?_
          exact xx_zretl C E rfl rfl ⟨Nat.le_of_ble_eq_true rfl, Nat.le_of_ble_eq_true rfl⟩ dX12_isAhead_68 h
        · refine xx_iconst C 64 rfl dX12_isAhead_63 ?_
          refine xx_goto C 68 dX12_isAhead_64 (by decide) ?_
          exact xx_zretl C E rfl rfl ⟨Nat.le_of_ble_eq_true rfl, Nat.le_of_ble_eq_true rfl⟩ dX12_isAhead_68 h
  · refine xx_aload_n C 14 rfl 0 dX12_isAhead_13 rfl rfl ?_
    refine xx_iload_n C 15 rfl 1 dX12_isAhead_14 rfl rfl ?_
    refine xx_cVip (As := [.int (iI a1)]) (st := []) (o := 0) C 18 rfl (by decide) (ceM_0 _ _ _) rfl rfl ca_X12_held cv_X12_held w_1331 rfl ⟨Nat.le_of_ble_eq_true rfl, Nat.le_of_ble_eq_true rfl⟩ ⟨Nat.le_of_ble_eq_true rfl, Nat.le_of_ble_eq_true rfl⟩ (Nat.le_of_ble_eq_true rfl) dX12_isAhead_15 (fun v15 e9 => c_X12_held _ _ v15 e9) h (fun v15 h => ?_) rfl
    refine xx_aload_n C 19 rfl 0 dX12_isAhead_18 rfl rfl ?_
    refine xx_iload_n C 20 rfl 2 dX12_isAhead_19 rfl rfl ?_
    refine xx_cVip (As := [.int (iI a2)]) (st := [.int (iI v15)]) (o := 0) C 23 rfl (by decide) (ceM_0 _ _ _) rfl rfl ca_X12_held cv_X12_held w_1331 rfl ⟨Nat.le_of_ble_eq_true rfl, Nat.le_of_ble_eq_true rfl⟩ ⟨Nat.le_of_ble_eq_true rfl, Nat.le_of_ble_eq_true rfl⟩ (Nat.le_of_ble_eq_true rfl) dX12_isAhead_20 (fun v20 e9 => c_X12_held _ _ v20 e9) h (fun v20 h => ?_) rfl
    refine xx_icmp_le (tgt := 30) C 26 rfl dX12_isAhead_23 (by decide) h (fun h => ?_) (fun h => ?_)
    · refine xx_iconst C 31 rfl dX12_isAhead_30 ?_
      exact xx_zretl C E rfl rfl ⟨Nat.le_of_ble_eq_true rfl, Nat.le_of_ble_eq_true rfl⟩ dX12_isAhead_31 h
    · refine xx_iconst C 27 rfl dX12_isAhead_26 ?_
      refine xx_goto C 31 dX12_isAhead_27 (by decide) ?_
      exact xx_zretl C E rfl rfl ⟨Nat.le_of_ble_eq_true rfl, Nat.le_of_ble_eq_true rfl⟩ dX12_isAhead_31 h

def f_X12_append (μ : mu_T) (a1 : Int) : Option (Int × mu_T) :=
  bd_ (f_X12_in μ a1 32 126) (fun v5 => eq_ v5 0
      (some ((-12), μ))
      (nm_ (μ 0 10) (fun v15 => eq_ v15 60
      (some ((-13), μ))
      (nm_ (μ 0 10) (fun v31 => wr_ μ 5 60 v31 a1 (fun μ35 => nm_ (μ35 0 10) (fun v38 => wf_ μ35 0 10 (v38 + 1) (fun μ43 => nm_ (μ43 0 10) (fun v47 => some (v47, μ43))))))))))
set_option maxHeartbeats 4000000 in
set_option maxRecDepth 100000 in
theorem c_X12_append {G : gp_} {ad : Nat → Nat} (μ : mu_T) (a1 : Int) (a : Int) (μr : mu_T) (h : f_X12_append μ a1 = some (a, μr)) : mi_ yX12_append cX12_append 2 (some .int) ({ frames := 1, cells := 0, slots := 0, locals := 22 } : Room) G 9 ad (ceM G ad) [.ref (ad 0), .int (iI a1)] μ a μr := by
  refine mi_in (own := "UrnHeapModel") (lv := [(0, .ref (ad 0)), (1, .int (iI a1))]) (by decide) rfl rfl (Nat.le_of_ble_eq_true rfl) (fun X C E => ?_)
  unfold f_X12_append at h
  refine xx_iload_n C 1 rfl 1 dX12_append_0 rfl rfl ?_
  refine xx_bipush C 3 rfl dX12_append_1 (by decide) ?_
  refine xx_bipush C 5 rfl dX12_append_3 (by decide) ?_
  refine xx_cSip (As := [.int (iI a1), .int (iI 32), .int (iI 126)]) (st := []) C 8 rfl  ca_X12_in cs_X12_in w_1272 rfl ⟨Nat.le_of_ble_eq_true rfl, Nat.le_of_ble_eq_true rfl⟩ ⟨Nat.le_of_ble_eq_true rfl, Nat.le_of_ble_eq_true rfl⟩ (Nat.le_of_ble_eq_true rfl) dX12_append_5 (fun v5 e9 => c_X12_in _ _ _ _ v5 e9) h (fun v5 h => ?_) rfl
  refine xx_if_ne (tgt := 14) C 11 rfl dX12_append_8 (by decide) h (fun h => ?_) (fun h => ?_)
  · refine xx_aload_n C 15 rfl 0 dX12_append_14 rfl rfl ?_
    refine xx_geti (fi := 10) (j := 10) C 18 rfl (by decide) (ceM_0 _ _ _) rfl in_X12 (by decide) rfl rfl w_1181 dX12_append_15 h (fun v15 h => ?_)
    refine xx_bipush C 20 rfl dX12_append_18 (by decide) ?_
    refine xx_icmp_ne (tgt := 26) C 23 rfl dX12_append_20 (by decide) h (fun h => ?_) (fun h => ?_)
    · refine xx_aload_n C 27 rfl 0 dX12_append_26 rfl rfl ?_
      refine xx_getr (fi := 6) C 30 rfl (by decide) (ceM_0 _ _ _) rfl in_X12 (by decide) rfl rfl w_1177 dX12_append_27 ?_
      refine xx_aload_n C 31 rfl 0 dX12_append_30 rfl rfl ?_
      refine xx_geti (fi := 10) (j := 10) C 34 rfl (by decide) (ceM_0 _ _ _) rfl in_X12 (by decide) rfl rfl w_1181 dX12_append_31 h (fun v31 h => ?_)
      refine xx_iload_n C 35 rfl 1 dX12_append_34 rfl rfl ?_
      refine xx_iastore C 36 rfl (by decide) (fun _ => rfl) (by decide) dX12_append_35 h (fun μ35 h => ?_)
      refine xx_aload_n C 37 rfl 0 dX12_append_36 rfl rfl ?_
      refine xx_dup C 38 rfl dX12_append_37 rfl ?_
      refine xx_geti (fi := 10) (j := 10) C 41 rfl (by decide) (ceM_0 _ _ _) rfl in_X12 (by decide) rfl rfl w_1181 dX12_append_38 h (fun v38 h => ?_)
      refine xx_iconst C 42 rfl dX12_append_41 ?_
      refine xx_iadd C 43 rfl dX12_append_42 ?_
      refine xx_puti (fi := 10) (j := 10) C 46 rfl (by decide) (ceM_0 _ _ _) (puM_10 _ _ _ _) rfl in_X12 tyX12 tyX12_ok nmX12 (by decide) (Nat.le_of_ble_eq_true rfl) ⟨rfl, rfl, rfl⟩ w_1181 dX12_append_43 h (fun μ43 h => ?_)
      refine xx_aload_n C 47 rfl 0 dX12_append_46 rfl rfl ?_
      refine xx_geti (fi := 10) (j := 10) C 50 rfl (by decide) (ceM_0 _ _ _) rfl in_X12 (by decide) rfl rfl w_1181 dX12_append_47 h (fun v47 h => ?_)
      exact xx_iret C E rfl ⟨Nat.le_of_ble_eq_true rfl, Nat.le_of_ble_eq_true rfl⟩ dX12_append_50 h
    · refine xx_bipush C 25 rfl dX12_append_23 (by decide) ?_
      exact xx_iret C E rfl ⟨Nat.le_of_ble_eq_true rfl, Nat.le_of_ble_eq_true rfl⟩ dX12_append_25 h
  · refine xx_bipush C 13 rfl dX12_append_11 (by decide) ?_
    exact xx_iret C E rfl ⟨Nat.le_of_ble_eq_true rfl, Nat.le_of_ble_eq_true rfl⟩ dX12_append_13 h

def f_X12_here (μ : mu_T)  : Option Int :=
  nm_ (μ 0 16) (fun v1 => nm_ (μ 0 17) (fun v5 => lt_ v1 v5
      (nm_ (μ 0 16) (fun v16 => rd_ μ 5 60 v16 (fun v19 => some v19)))
      (some (-11))))
set_option maxHeartbeats 4000000 in
set_option maxRecDepth 100000 in
theorem c_X12_here {G : gp_} {ad : Nat → Nat} (μ : mu_T)  (a : Int) (h : f_X12_here μ  = some a) : mi_ yX12_here cX12_here 1 (some .int) ({ frames := 0, cells := 0, slots := 0, locals := 0 } : Room) G 9 ad (ceM G ad) [.ref (ad 0)] μ a μ := by
  refine mi_in (own := "UrnHeapModel") (lv := [(0, .ref (ad 0))]) (by decide) rfl rfl (Nat.le_of_ble_eq_true rfl) (fun X C E => ?_)
  unfold f_X12_here at h
  refine xx_aload_n C 1 rfl 0 dX12_here_0 rfl rfl ?_
  refine xx_geti (fi := 16) (j := 16) C 4 rfl (by decide) (ceM_0 _ _ _) rfl in_X12 (by decide) rfl rfl w_1187 dX12_here_1 h (fun v1 h => ?_)
  refine xx_aload_n C 5 rfl 0 dX12_here_4 rfl rfl ?_
  refine xx_geti (fi := 17) (j := 17) C 8 rfl (by decide) (ceM_0 _ _ _) rfl in_X12 (by decide) rfl rfl w_1188 dX12_here_5 h (fun v5 h => ?_)
  refine xx_icmp_ge (tgt := 23) C 11 rfl dX12_here_8 (by decide) h (fun h => ?_) (fun h => ?_)
  · refine xx_bipush C 25 rfl dX12_here_23 (by decide) ?_
    exact xx_iretp C E rfl ⟨Nat.le_of_ble_eq_true rfl, Nat.le_of_ble_eq_true rfl⟩ dX12_here_25 h
  · refine xx_aload_n C 12 rfl 0 dX12_here_11 rfl rfl ?_
    refine xx_getr (fi := 6) C 15 rfl (by decide) (ceM_0 _ _ _) rfl in_X12 (by decide) rfl rfl w_1177 dX12_here_12 ?_
    refine xx_aload_n C 16 rfl 0 dX12_here_15 rfl rfl ?_
    refine xx_geti (fi := 16) (j := 16) C 19 rfl (by decide) (ceM_0 _ _ _) rfl in_X12 (by decide) rfl rfl w_1187 dX12_here_16 h (fun v16 h => ?_)
    refine xx_iaload C 20 rfl (by decide) (fun _ => rfl) (by decide) dX12_here_19 h (fun v19 h => ?_)
    refine xx_goto C 25 dX12_here_20 (by decide) ?_
    exact xx_iretp C E rfl ⟨Nat.le_of_ble_eq_true rfl, Nat.le_of_ble_eq_true rfl⟩ dX12_here_25 h

def f_X12_next (μ : mu_T)  : Option Int :=
  nm_ (μ 0 16) (fun v1 => nm_ (μ 0 17) (fun v7 => lt_ (v1 + 1) v7
      (nm_ (μ 0 16) (fun v18 => rd_ μ 5 60 (v18 + 1) (fun v23 => some v23)))
      (some (-11))))
set_option maxHeartbeats 4000000 in
set_option maxRecDepth 100000 in
theorem c_X12_next {G : gp_} {ad : Nat → Nat} (μ : mu_T)  (a : Int) (h : f_X12_next μ  = some a) : mi_ yX12_next cX12_next 1 (some .int) ({ frames := 0, cells := 0, slots := 0, locals := 0 } : Room) G 9 ad (ceM G ad) [.ref (ad 0)] μ a μ := by
  refine mi_in (own := "UrnHeapModel") (lv := [(0, .ref (ad 0))]) (by decide) rfl rfl (Nat.le_of_ble_eq_true rfl) (fun X C E => ?_)
  unfold f_X12_next at h
  refine xx_aload_n C 1 rfl 0 dX12_next_0 rfl rfl ?_
  refine xx_geti (fi := 16) (j := 16) C 4 rfl (by decide) (ceM_0 _ _ _) rfl in_X12 (by decide) rfl rfl w_1187 dX12_next_1 h (fun v1 h => ?_)
  refine xx_iconst C 5 rfl dX12_next_4 ?_
  refine xx_iadd C 6 rfl dX12_next_5 ?_
  refine xx_aload_n C 7 rfl 0 dX12_next_6 rfl rfl ?_
  refine xx_geti (fi := 17) (j := 17) C 10 rfl (by decide) (ceM_0 _ _ _) rfl in_X12 (by decide) rfl rfl w_1188 dX12_next_7 h (fun v7 h => ?_)
  refine xx_icmp_ge (tgt := 27) C 13 rfl dX12_next_10 (by decide) h (fun h => ?_) (fun h => ?_)
  · refine xx_bipush C 29 rfl dX12_next_27 (by decide) ?_
    exact xx_iretp C E rfl ⟨Nat.le_of_ble_eq_true rfl, Nat.le_of_ble_eq_true rfl⟩ dX12_next_29 h
  · refine xx_aload_n C 14 rfl 0 dX12_next_13 rfl rfl ?_
    refine xx_getr (fi := 6) C 17 rfl (by decide) (ceM_0 _ _ _) rfl in_X12 (by decide) rfl rfl w_1177 dX12_next_14 ?_
    refine xx_aload_n C 18 rfl 0 dX12_next_17 rfl rfl ?_
    refine xx_geti (fi := 16) (j := 16) C 21 rfl (by decide) (ceM_0 _ _ _) rfl in_X12 (by decide) rfl rfl w_1187 dX12_next_18 h (fun v18 h => ?_)
    refine xx_iconst C 22 rfl dX12_next_21 ?_
    refine xx_iadd C 23 rfl dX12_next_22 ?_
    refine xx_iaload C 24 rfl (by decide) (fun _ => rfl) (by decide) dX12_next_23 h (fun v23 h => ?_)
    refine xx_goto C 29 dX12_next_24 (by decide) ?_
    exact xx_iretp C E rfl ⟨Nat.le_of_ble_eq_true rfl, Nat.le_of_ble_eq_true rfl⟩ dX12_next_29 h

def f_X12_tells (μ : mu_T) (a1 : Int) (a2 : Int) : Option mu_T :=
  nm_ (μ 0 18) (fun v6 => wr_ μ 6 80 ((4 * v6) + a1) a2 (fun μ13 => some μ13))
set_option maxHeartbeats 4000000 in
set_option maxRecDepth 100000 in
theorem c_X12_tells {G : gp_} {ad : Nat → Nat} (μ : mu_T) (a1 : Int) (a2 : Int) (μr : mu_T) (h : f_X12_tells μ a1 a2 = some μr) : mv_ yX12_tells cX12_tells 3 ({ frames := 0, cells := 0, slots := 0, locals := 0 } : Room) G 9 ad (ceM G ad) [.ref (ad 0), .int (iI a1), .int (iI a2)] μ μr := by
  refine mv_in (own := "UrnHeapModel") (lv := [(0, .ref (ad 0)), (1, .int (iI a1)), (2, .int (iI a2))]) (by decide) rfl rfl (Nat.le_of_ble_eq_true rfl) (fun X C E => ?_)
  unfold f_X12_tells at h
  refine xx_aload_n C 1 rfl 0 dX12_tells_0 rfl rfl ?_
  refine xx_getr (fi := 7) C 4 rfl (by decide) (ceM_0 _ _ _) rfl in_X12 (by decide) rfl rfl w_1178 dX12_tells_1 ?_
  refine xx_iconst C 5 rfl dX12_tells_4 ?_
  refine xx_aload_n C 6 rfl 0 dX12_tells_5 rfl rfl ?_
  refine xx_geti (fi := 18) (j := 18) C 9 rfl (by decide) (ceM_0 _ _ _) rfl in_X12 (by decide) rfl rfl w_1189 dX12_tells_6 h (fun v6 h => ?_)
  refine xx_imul C 10 rfl dX12_tells_9 ?_
  refine xx_iload_n C 11 rfl 1 dX12_tells_10 rfl rfl ?_
  refine xx_iadd C 12 rfl dX12_tells_11 ?_
  refine xx_iload_n C 13 rfl 2 dX12_tells_12 rfl rfl ?_
  refine xx_iastore C 14 rfl (by decide) (fun _ => rfl) (by decide) dX12_tells_13 h (fun μ13 h => ?_)
  exact xx_vret C E rfl ⟨Nat.le_of_ble_eq_true rfl, Nat.le_of_ble_eq_true rfl⟩ dX12_tells_14 h

def f_X12_number_L5 (J61 : Int → Int → mu_T → Option mu_T) (a2 : Int) : Nat → Int → Int → mu_T → Option mu_T
  | 0, _, _, _ => none
  | fu5 + 1, x3_5, x4_5, μ5 => nm_ (μ5 0 19) (fun v6 => eq_ v6 0
      (lt_ x4_5 a2
      (bd_ (f_X12_here μ5) (fun v19 => bd_ (f_X12_in μ5 v19 48 57) (fun v26 => eq_ v26 0
      (J61 x3_5 x4_5 μ5)
      (bd_ (f_X12_here μ5) (fun v37 => nm_ ((((10 * x3_5) + v37) - 48)) (fun n44 => nm_ (μ5 0 16) (fun v47 => wf_ μ5 0 16 (v47 + 1) (fun μ52 => nm_ (x4_5 + 1) (fun n55 => (f_X12_number_L5 J61 a2 fu5) n44 n55 μ52)))))))))
      (J61 x3_5 x4_5 μ5))
      (J61 x3_5 x4_5 μ5))
def f_X12_number (μ : mu_T) (a1 : Int) (a2 : Int) : Option mu_T :=
  jn_ (φ := Int → Int → mu_T → Option mu_T) (fun x3_61 x4_61 μ61 => nm_ (μ61 0 19) (fun v63 => jn_ (φ := Int → Option mu_T) (fun s0_79 => wz_ μ61 0 19 s0_79 (fun μ79 => bd_ (f_X12_tells μ79 a1 x3_61) (fun μ85 => some μ85)))
      (fun J79 => jn_ (φ := Unit → Option mu_T) (fun _ => J79 1)
      (fun J74 => eq_ v63 0
      (eq_ x4_61 0
      (J74 ())
      (J79 0))
      (J74 ())))))
      (fun J61 => f_X12_number_L5 J61 a2 20000 0 0 μ)
set_option maxHeartbeats 4000000 in
set_option maxRecDepth 100000 in
theorem c_X12_number {G : gp_} {ad : Nat → Nat} (μ : mu_T) (a1 : Int) (a2 : Int) (μr : mu_T) (h : f_X12_number μ a1 a2 = some μr) : mv_ yX12_number cX12_number 5 ({ frames := 1, cells := 0, slots := 0, locals := 22 } : Room) G 9 ad (ceM G ad) [.ref (ad 0), .int (iI a1), .int (iI a2)] μ μr := by
  refine mv_in (own := "UrnHeapModel") (lv := [(0, .ref (ad 0)), (1, .int (iI a1)), (2, .int (iI a2))]) (by decide) rfl rfl (Nat.le_of_ble_eq_true rfl) (fun X C E => ?_)
  unfold f_X12_number at h
  refine xx_iconst C 1 rfl dX12_number_0 ?_
  refine xx_istore_n (lv1 := [(3, .int (iI 0)), (0, .ref (ad 0)), (1, .int (iI a1)), (2, .int (iI a2))]) C 2 rfl (by decide) dX12_number_1 rfl rfl ?_
  refine xx_iconst C 3 rfl dX12_number_2 ?_
  refine xx_istore (lv1 := [(4, .int (iI 0)), (3, .int (iI 0)), (0, .ref (ad 0)), (1, .int (iI a1)), (2, .int (iI a2))]) C 5 rfl (by decide) dX12_number_3 rfl ?_
  refine jn_r (fun J => ∀ (x3_61 : Int) (x4_61 : Int) (μ61 : mu_T), J x3_61 x4_61 μ61 = some μr → wx_ G X 9 ad (ceM G ad) μ61 0 0 61 [(0, .ref (ad 0)), (1, .int (iI a1)), (3, .int (iI x3_61)), (4, .int (iI x4_61))] []) h (fun x3_61 x4_61 μ61 h => ?_) (fun J61 K61 h => ?_)
  · refine xx_aload_n C 62 rfl 0 dX12_number_61 rfl rfl ?_
    refine xx_aload_n C 63 rfl 0 dX12_number_62 rfl rfl ?_
    refine xx_geti (fi := 19) (j := 19) C 66 rfl (by decide) (ceM_0 _ _ _) rfl in_X12 (by decide) rfl rfl w_1190 dX12_number_63 h (fun v63 h => ?_)
    refine jn_r (fun J => ∀ (s0_79 : Int), J s0_79 = some μr → wx_ G X 9 ad (ceM G ad) μ61 0 0 79 [(0, .ref (ad 0)), (1, .int (iI a1)), (3, .int (iI x3_61))] [.int (iI s0_79), .ref (ad 0)]) h (fun s0_79 h => ?_) (fun J79 K79 h => ?_)
    · refine xx_putz (fi := 19) (j := 19) C 82 rfl (by decide) (ceM_0 _ _ _) (puM_19 _ _ _ _) rfl in_X12 tyX12 tyX12_ok nmX12 (by decide) (Nat.le_of_ble_eq_true rfl) ⟨rfl, rfl, rfl⟩ w_1190 dX12_number_79 h (fun μ79 h => ?_)
      refine xx_aload_n C 83 rfl 0 dX12_number_82 rfl rfl ?_
      refine xx_iload_n C 84 rfl 1 dX12_number_83 rfl rfl ?_
      refine xx_iload_n C 85 rfl 2 dX12_number_84 rfl rfl ?_
      refine xx_cVv (As := [.int (iI a1), .int (iI x3_61)]) (st := []) (o := 0) C 88 rfl (by decide) (ceM_0 _ _ _) rfl rfl ca_X12_tells cv_X12_tells w_1484 rfl ⟨Nat.le_of_ble_eq_true rfl, Nat.le_of_ble_eq_true rfl⟩ ⟨Nat.le_of_ble_eq_true rfl, Nat.le_of_ble_eq_true rfl⟩ (Nat.le_of_ble_eq_true rfl) dX12_number_85 (fun μ85 e9 => c_X12_tells _ _ _ μ85 e9) h (fun μ85 h => ?_) rfl
      exact xx_vret C E rfl ⟨Nat.le_of_ble_eq_true rfl, Nat.le_of_ble_eq_true rfl⟩ dX12_number_88 h
    · refine jn_r (fun J => ∀ (_u : Unit), J _u = some μr → wx_ G X 9 ad (ceM G ad) μ61 0 0 74 [(0, .ref (ad 0)), (1, .int (iI a1)), (3, .int (iI x3_61))] [.ref (ad 0)]) h (fun _ h => ?_) (fun J74 K74 h => ?_)
      · refine xx_iconst C 75 rfl dX12_number_74 ?_
        refine xx_goto C 79 dX12_number_75 (by decide) ?_
        exact K79 1 h
      · refine xx_if_ne (tgt := 74) C 69 rfl dX12_number_66 (by decide) h (fun h => ?_) (fun h => ?_)
        · refine xx_sub [0, 1, 2] rfl ?_
          exact K74 () h
        · refine xx_iload C 71 rfl 3 dX12_number_69 rfl ?_
          refine xx_if_ne (tgt := 78) C 74 rfl dX12_number_71 (by decide) h (fun h => ?_) (fun h => ?_)
          · refine xx_iconst C 79 rfl dX12_number_78 ?_
            refine xx_sub [0, 1, 2] rfl ?_
            exact K79 0 h
          · refine xx_sub [0, 1, 2] rfl ?_
            exact K74 () h
  · have L5 : ∀ (fu5 : Nat) (x3_5 : Int) (x4_5 : Int) (μ5 : mu_T), f_X12_number_L5 J61 a2 fu5 x3_5 x4_5 μ5 = some μr → wx_ G X 9 ad (ceM G ad) μ5 0 0 5 [(0, .ref (ad 0)), (1, .int (iI a1)), (2, .int (iI a2)), (3, .int (iI x3_5)), (4, .int (iI x4_5))] [] := by
      intro fu5
      induction fu5 with
      | zero => intro x3_5 x4_5 μ5 h; exact nn_ h
      | succ fu5 K5 =>
        intro x3_5 x4_5 μ5 h
        rw [f_X12_number_L5] at h
        generalize f_X12_number_L5 J61 a2 fu5 = R5 at K5 h
        refine xx_aload_n C 6 rfl 0 dX12_number_5 rfl rfl ?_
        refine xx_geti (fi := 19) (j := 19) C 9 rfl (by decide) (ceM_0 _ _ _) rfl in_X12 (by decide) rfl rfl w_1190 dX12_number_6 h (fun v6 h => ?_)
        refine xx_if_ne (tgt := 61) C 12 rfl dX12_number_9 (by decide) h (fun h => ?_) (fun h => ?_)
        · refine xx_sub [0, 1, 3, 4] rfl ?_
          exact K61 x3_5 x4_5 μ5 h
        · refine xx_iload C 14 rfl 4 dX12_number_12 rfl ?_
          refine xx_iload_n C 15 rfl 2 dX12_number_14 rfl rfl ?_
          refine xx_icmp_ge (tgt := 61) C 18 rfl dX12_number_15 (by decide) h (fun h => ?_) (fun h => ?_)
          · refine xx_sub [0, 1, 3, 4] rfl ?_
            exact K61 x3_5 x4_5 μ5 h
          · refine xx_aload_n C 19 rfl 0 dX12_number_18 rfl rfl ?_
            refine xx_cVip (As := []) (st := []) (o := 0) C 22 rfl (by decide) (ceM_0 _ _ _) rfl rfl ca_X12_here cv_X12_here w_1476 rfl ⟨Nat.le_of_ble_eq_true rfl, Nat.le_of_ble_eq_true rfl⟩ ⟨Nat.le_of_ble_eq_true rfl, Nat.le_of_ble_eq_true rfl⟩ (Nat.le_of_ble_eq_true rfl) dX12_number_19 (fun v19 e9 => c_X12_here _ v19 e9) h (fun v19 h => ?_) rfl
            refine xx_bipush C 24 rfl dX12_number_22 (by decide) ?_
            refine xx_bipush C 26 rfl dX12_number_24 (by decide) ?_
            refine xx_cSip (As := [.int (iI v19), .int (iI 48), .int (iI 57)]) (st := []) C 29 rfl  ca_X12_in cs_X12_in w_1272 rfl ⟨Nat.le_of_ble_eq_true rfl, Nat.le_of_ble_eq_true rfl⟩ ⟨Nat.le_of_ble_eq_true rfl, Nat.le_of_ble_eq_true rfl⟩ (Nat.le_of_ble_eq_true rfl) dX12_number_26 (fun v26 e9 => c_X12_in _ _ _ _ v26 e9) h (fun v26 h => ?_) rfl
            refine xx_if_eq (tgt := 61) C 32 rfl dX12_number_29 (by decide) h (fun h => ?_) (fun h => ?_)
            · refine xx_sub [0, 1, 3, 4] rfl ?_
              exact K61 x3_5 x4_5 μ5 h
            · refine xx_bipush C 34 rfl dX12_number_32 (by decide) ?_
              refine xx_iload_n C 35 rfl 3 dX12_number_34 rfl rfl ?_
              refine xx_imul C 36 rfl dX12_number_35 ?_
              refine xx_aload_n C 37 rfl 0 dX12_number_36 rfl rfl ?_
              refine xx_cVip (As := []) (st := [.int (iI (10 * x3_5))]) (o := 0) C 40 rfl (by decide) (ceM_0 _ _ _) rfl rfl ca_X12_here cv_X12_here w_1476 rfl ⟨Nat.le_of_ble_eq_true rfl, Nat.le_of_ble_eq_true rfl⟩ ⟨Nat.le_of_ble_eq_true rfl, Nat.le_of_ble_eq_true rfl⟩ (Nat.le_of_ble_eq_true rfl) dX12_number_37 (fun v37 e9 => c_X12_here _ v37 e9) h (fun v37 h => ?_) rfl
              refine xx_iadd C 41 rfl dX12_number_40 ?_
              refine xx_bipush C 43 rfl dX12_number_41 (by decide) ?_
              refine xx_isub C 44 rfl dX12_number_43 ?_
              refine xx_nm C h (fun n44 h => ?_)
              refine xx_istore_n (lv1 := [(3, .int (iI n44)), (0, .ref (ad 0)), (1, .int (iI a1)), (2, .int (iI a2)), (4, .int (iI x4_5))]) C 45 rfl (by decide) dX12_number_44 rfl rfl ?_
              refine xx_aload_n C 46 rfl 1 dX12_number_45 rfl rfl ?_
              refine xx_dup C 47 rfl dX12_number_46 rfl ?_
              refine xx_geti (fi := 16) (j := 16) C 50 rfl (by decide) (ceM_0 _ _ _) rfl in_X12 (by decide) rfl rfl w_1187 dX12_number_47 h (fun v47 h => ?_)
              refine xx_iconst C 51 rfl dX12_number_50 ?_
              refine xx_iadd C 52 rfl dX12_number_51 ?_
              refine xx_puti (fi := 16) (j := 16) C 55 rfl (by decide) (ceM_0 _ _ _) (puM_16 _ _ _ _) rfl in_X12 tyX12 tyX12_ok nmX12 (by decide) (Nat.le_of_ble_eq_true rfl) ⟨rfl, rfl, rfl⟩ w_1187 dX12_number_52 h (fun μ52 h => ?_)
              refine xx_iincn C 58 rfl 4 (by decide) dX12_number_55 rfl h (fun n55 h => ?_)
              refine xx_lv (lv1 := [(4, .int (iI n55)), (3, .int (iI n44)), (0, .ref (ad 0)), (1, .int (iI a1)), (2, .int (iI a2))]) rfl ?_
              refine xx_goto C 5 dX12_number_58 (by decide) ?_
              refine xx_sub [2, 3, 4, 1, 0] rfl ?_
              exact K5 n44 n55 μ52 h
    refine xx_sub [2, 3, 4, 1, 0] rfl ?_
    exact L5 _ _ _ _ h

def f_X12_letter (μ : mu_T) (a1 : Int) : Option mu_T :=
  nm_ (μ 0 19) (fun v2 => jn_ (φ := Int → Option mu_T) (fun s0_27 => wz_ μ 0 19 s0_27 (fun μ27 => bd_ (f_X12_here μ27) (fun v33 => bd_ (f_X12_tells μ27 a1 (v33 - 97)) (fun μ39 => nm_ (μ39 0 16) (fun v44 => nm_ (μ39 0 19) (fun v48 => eq_ v48 0
      (wf_ μ39 0 16 (v44 + 1) (fun μ60 => some μ60))
      (wf_ μ39 0 16 (v44 + 0) (fun μ60 => some μ60))))))))
      (fun J27 => jn_ (φ := Unit → Option mu_T) (fun _ => J27 1)
      (fun J22 => eq_ v2 0
      (bd_ (f_X12_here μ) (fun v9 => bd_ (f_X12_in μ v9 97 102) (fun v16 => eq_ v16 0
      (J22 ())
      (J27 0))))
      (J22 ()))))
set_option maxHeartbeats 4000000 in
set_option maxRecDepth 100000 in
theorem c_X12_letter {G : gp_} {ad : Nat → Nat} (μ : mu_T) (a1 : Int) (μr : mu_T) (h : f_X12_letter μ a1 = some μr) : mv_ yX12_letter cX12_letter 2 ({ frames := 1, cells := 0, slots := 0, locals := 22 } : Room) G 9 ad (ceM G ad) [.ref (ad 0), .int (iI a1)] μ μr := by
  refine mv_in (own := "UrnHeapModel") (lv := [(0, .ref (ad 0)), (1, .int (iI a1))]) (by decide) rfl rfl (Nat.le_of_ble_eq_true rfl) (fun X C E => ?_)
  unfold f_X12_letter at h
  refine xx_aload_n C 1 rfl 0 dX12_letter_0 rfl rfl ?_
  refine xx_aload_n C 2 rfl 0 dX12_letter_1 rfl rfl ?_
  refine xx_geti (fi := 19) (j := 19) C 5 rfl (by decide) (ceM_0 _ _ _) rfl in_X12 (by decide) rfl rfl w_1190 dX12_letter_2 h (fun v2 h => ?_)
  refine jn_r (fun J => ∀ (s0_27 : Int), J s0_27 = some μr → wx_ G X 9 ad (ceM G ad) μ 0 0 27 [(0, .ref (ad 0)), (1, .int (iI a1))] [.int (iI s0_27), .ref (ad 0)]) h (fun s0_27 h => ?_) (fun J27 K27 h => ?_)
  · refine xx_putz (fi := 19) (j := 19) C 30 rfl (by decide) (ceM_0 _ _ _) (puM_19 _ _ _ _) rfl in_X12 tyX12 tyX12_ok nmX12 (by decide) (Nat.le_of_ble_eq_true rfl) ⟨rfl, rfl, rfl⟩ w_1190 dX12_letter_27 h (fun μ27 h => ?_)
    refine xx_aload_n C 31 rfl 0 dX12_letter_30 rfl rfl ?_
    refine xx_iload_n C 32 rfl 1 dX12_letter_31 rfl rfl ?_
    refine xx_aload_n C 33 rfl 0 dX12_letter_32 rfl rfl ?_
    refine xx_cVip (As := []) (st := [.int (iI a1), .ref (ad 0)]) (o := 0) C 36 rfl (by decide) (ceM_0 _ _ _) rfl rfl ca_X12_here cv_X12_here w_1476 rfl ⟨Nat.le_of_ble_eq_true rfl, Nat.le_of_ble_eq_true rfl⟩ ⟨Nat.le_of_ble_eq_true rfl, Nat.le_of_ble_eq_true rfl⟩ (Nat.le_of_ble_eq_true rfl) dX12_letter_33 (fun v33 e9 => c_X12_here _ v33 e9) h (fun v33 h => ?_) rfl
    refine xx_bipush C 38 rfl dX12_letter_36 (by decide) ?_
    refine xx_isub C 39 rfl dX12_letter_38 ?_
    refine xx_cVv (As := [.int (iI a1), .int (iI (v33 - 97))]) (st := []) (o := 0) C 42 rfl (by decide) (ceM_0 _ _ _) rfl rfl ca_X12_tells cv_X12_tells w_1484 rfl ⟨Nat.le_of_ble_eq_true rfl, Nat.le_of_ble_eq_true rfl⟩ ⟨Nat.le_of_ble_eq_true rfl, Nat.le_of_ble_eq_true rfl⟩ (Nat.le_of_ble_eq_true rfl) dX12_letter_39 (fun μ39 e9 => c_X12_tells _ _ _ μ39 e9) h (fun μ39 h => ?_) rfl
    refine xx_aload_n C 43 rfl 0 dX12_letter_42 rfl rfl ?_
    refine xx_dup C 44 rfl dX12_letter_43 rfl ?_
    refine xx_geti (fi := 16) (j := 16) C 47 rfl (by decide) (ceM_0 _ _ _) rfl in_X12 (by decide) rfl rfl w_1187 dX12_letter_44 h (fun v44 h => ?_)
    refine xx_aload_n C 48 rfl 0 dX12_letter_47 rfl rfl ?_
    refine xx_geti (fi := 19) (j := 19) C 51 rfl (by decide) (ceM_0 _ _ _) rfl in_X12 (by decide) rfl rfl w_1190 dX12_letter_48 h (fun v48 h => ?_)
    refine xx_if_eq (tgt := 58) C 54 rfl dX12_letter_51 (by decide) h (fun h => ?_) (fun h => ?_)
    · refine xx_iconst C 59 rfl dX12_letter_58 ?_
      refine xx_iadd C 60 rfl dX12_letter_59 ?_
      refine xx_puti (fi := 16) (j := 16) C 63 rfl (by decide) (ceM_0 _ _ _) (puM_16 _ _ _ _) rfl in_X12 tyX12 tyX12_ok nmX12 (by decide) (Nat.le_of_ble_eq_true rfl) ⟨rfl, rfl, rfl⟩ w_1187 dX12_letter_60 h (fun μ60 h => ?_)
      exact xx_vret C E rfl ⟨Nat.le_of_ble_eq_true rfl, Nat.le_of_ble_eq_true rfl⟩ dX12_letter_63 h
    · refine xx_iconst C 55 rfl dX12_letter_54 ?_
      refine xx_goto C 59 dX12_letter_55 (by decide) ?_
      refine xx_iadd C 60 rfl dX12_letter_59 ?_
      refine xx_puti (fi := 16) (j := 16) C 63 rfl (by decide) (ceM_0 _ _ _) (puM_16 _ _ _ _) rfl in_X12 tyX12 tyX12_ok nmX12 (by decide) (Nat.le_of_ble_eq_true rfl) ⟨rfl, rfl, rfl⟩ w_1187 dX12_letter_60 h (fun μ60 h => ?_)
      exact xx_vret C E rfl ⟨Nat.le_of_ble_eq_true rfl, Nat.le_of_ble_eq_true rfl⟩ dX12_letter_63 h
  · refine jn_r (fun J => ∀ (_u : Unit), J _u = some μr → wx_ G X 9 ad (ceM G ad) μ 0 0 22 [(0, .ref (ad 0)), (1, .int (iI a1))] [.ref (ad 0)]) h (fun _ h => ?_) (fun J22 K22 h => ?_)
    · refine xx_iconst C 23 rfl dX12_letter_22 ?_
      refine xx_goto C 27 dX12_letter_23 (by decide) ?_
      exact K27 1 h
    · refine xx_if_ne (tgt := 22) C 8 rfl dX12_letter_5 (by decide) h (fun h => ?_) (fun h => ?_)
      · exact K22 () h
      · refine xx_aload_n C 9 rfl 0 dX12_letter_8 rfl rfl ?_
        refine xx_cVip (As := []) (st := [.ref (ad 0)]) (o := 0) C 12 rfl (by decide) (ceM_0 _ _ _) rfl rfl ca_X12_here cv_X12_here w_1476 rfl ⟨Nat.le_of_ble_eq_true rfl, Nat.le_of_ble_eq_true rfl⟩ ⟨Nat.le_of_ble_eq_true rfl, Nat.le_of_ble_eq_true rfl⟩ (Nat.le_of_ble_eq_true rfl) dX12_letter_9 (fun v9 e9 => c_X12_here _ v9 e9) h (fun v9 h => ?_) rfl
        refine xx_bipush C 14 rfl dX12_letter_12 (by decide) ?_
        refine xx_bipush C 16 rfl dX12_letter_14 (by decide) ?_
        refine xx_cSip (As := [.int (iI v9), .int (iI 97), .int (iI 102)]) (st := [.ref (ad 0)]) C 19 rfl  ca_X12_in cs_X12_in w_1272 rfl ⟨Nat.le_of_ble_eq_true rfl, Nat.le_of_ble_eq_true rfl⟩ ⟨Nat.le_of_ble_eq_true rfl, Nat.le_of_ble_eq_true rfl⟩ (Nat.le_of_ble_eq_true rfl) dX12_letter_16 (fun v16 e9 => c_X12_in _ _ _ _ v16 e9) h (fun v16 h => ?_) rfl
        refine xx_if_ne (tgt := 26) C 22 rfl dX12_letter_19 (by decide) h (fun h => ?_) (fun h => ?_)
        · refine xx_iconst C 27 rfl dX12_letter_26 ?_
          exact K27 0 h
        · exact K22 () h

def f_X12_does (μ : mu_T) (a1 : Int) : Option (Int × mu_T) :=
  rd_ μ 6 80 ((4 * a1) + 1) (fun v9 => rd_ μ 6 80 ((4 * a1) + 2) (fun v20 => rd_ μ 6 80 (4 * a1) (fun v29 => ts_ v29 [117, 116, 118, 110, 100, 119, 114, 115] [eq_ v9 1
      (bp_ (f_X12_makes μ 1) (fun v135 μ135 => some (v135, μ135)))
      (bp_ (f_X12_makes μ 0) (fun v135 μ135 => some (v135, μ135))),
      rd_ μ 6 80 ((4 * a1) + 3) (fun v151 => bp_ (f_X12_ties μ v9 v20 v151) (fun v152 μ152 => some (v152, μ152))),
      bp_ (f_X12_unties μ v9 v20) (fun v159 μ159 => some (v159, μ159)),
      bp_ (f_X12_names μ v9 v20) (fun v166 μ166 => some (v166, μ166)),
      bp_ (f_X12_drops μ v9) (fun v172 μ172 => some (v172, μ172)),
      bp_ (f_X12_weakens μ v9 v20) (fun v179 μ179 => some (v179, μ179)),
      bp_ (f_X12_wholeRound μ) (fun v184 μ184 => some (v184, μ184)),
      bp_ (f_X12_stepsOn μ v9) (fun v190 μ190 => some (v190, μ190))]
      (bp_ (f_X12_doesRite μ) (fun v195 μ195 => some (v195, μ195))))))
set_option maxHeartbeats 4000000 in
set_option maxRecDepth 100000 in
theorem c_X12_does {G : gp_} {ad : Nat → Nat} (μ : mu_T) (a1 : Int) (a : Int) (μr : mu_T) (h : f_X12_does μ a1 = some (a, μr)) : mi_ yX12_does cX12_does 4 (some .int) ({ frames := 7, cells := 0, slots := 0, locals := 152 } : Room) G 9 ad (ceM G ad) [.ref (ad 0), .int (iI a1)] μ a μr := by
  refine mi_in (own := "UrnHeapModel") (lv := [(0, .ref (ad 0)), (1, .int (iI a1))]) (by decide) rfl rfl (Nat.le_of_ble_eq_true rfl) (fun X C E => ?_)
  unfold f_X12_does at h
  refine xx_aload_n C 1 rfl 0 dX12_does_0 rfl rfl ?_
  refine xx_getr (fi := 7) C 4 rfl (by decide) (ceM_0 _ _ _) rfl in_X12 (by decide) rfl rfl w_1178 dX12_does_1 ?_
  refine xx_iconst C 5 rfl dX12_does_4 ?_
  refine xx_iload_n C 6 rfl 1 dX12_does_5 rfl rfl ?_
  refine xx_imul C 7 rfl dX12_does_6 ?_
  refine xx_iconst C 8 rfl dX12_does_7 ?_
  refine xx_iadd C 9 rfl dX12_does_8 ?_
  refine xx_iaload C 10 rfl (by decide) (fun _ => rfl) (by decide) dX12_does_9 h (fun v9 h => ?_)
  refine xx_istore_n (lv1 := [(2, .int (iI v9)), (0, .ref (ad 0)), (1, .int (iI a1))]) C 11 rfl (by decide) dX12_does_10 rfl rfl ?_
  refine xx_aload_n C 12 rfl 1 dX12_does_11 rfl rfl ?_
  refine xx_getr (fi := 7) C 15 rfl (by decide) (ceM_0 _ _ _) rfl in_X12 (by decide) rfl rfl w_1178 dX12_does_12 ?_
  refine xx_iconst C 16 rfl dX12_does_15 ?_
  refine xx_iload_n C 17 rfl 2 dX12_does_16 rfl rfl ?_
  refine xx_imul C 18 rfl dX12_does_17 ?_
  refine xx_iconst C 19 rfl dX12_does_18 ?_
  refine xx_iadd C 20 rfl dX12_does_19 ?_
  refine xx_iaload C 21 rfl (by decide) (fun _ => rfl) (by decide) dX12_does_20 h (fun v20 h => ?_)
  refine xx_istore_n (lv1 := [(3, .int (iI v20)), (2, .int (iI v9)), (0, .ref (ad 0)), (1, .int (iI a1))]) C 22 rfl (by decide) dX12_does_21 rfl rfl ?_
  refine xx_aload_n C 23 rfl 2 dX12_does_22 rfl rfl ?_
  refine xx_getr (fi := 7) C 26 rfl (by decide) (ceM_0 _ _ _) rfl in_X12 (by decide) rfl rfl w_1178 dX12_does_23 ?_
  refine xx_iconst C 27 rfl dX12_does_26 ?_
  refine xx_iload_n C 28 rfl 3 dX12_does_27 rfl rfl ?_
  refine xx_imul C 29 rfl dX12_does_28 ?_
  refine xx_iaload C 30 rfl (by decide) (fun _ => rfl) (by decide) dX12_does_29 h (fun v29 h => ?_)
  refine xx_tsw C [117, 116, 118, 110, 100, 119, 114, 115] _ [124, 139, 156, 163, 170, 176, 183, 188] 194 dX12_does_30 (by decide) rfl h (fun h => ?_) ⟨fun h => ?_, fun h => ?_, fun h => ?_, fun h => ?_, fun h => ?_, fun h => ?_, fun h => ?_, fun h => ?_, trivial⟩
  · refine xx_aload_n C 195 rfl 2 dX12_does_194 rfl rfl ?_
    refine xx_cVi (As := []) (st := []) (o := 0) C 198 rfl (by decide) (ceM_0 _ _ _) rfl rfl ca_X12_doesRite cv_X12_doesRite w_1399 rfl ⟨Nat.le_of_ble_eq_true rfl, Nat.le_of_ble_eq_true rfl⟩ ⟨Nat.le_of_ble_eq_true rfl, Nat.le_of_ble_eq_true rfl⟩ (Nat.le_of_ble_eq_true rfl) dX12_does_195 (fun v195 μ195 e9 => c_X12_doesRite _ v195 μ195 e9) h (fun v195 μ195 h => ?_) rfl
    exact xx_iret C E rfl ⟨Nat.le_of_ble_eq_true rfl, Nat.le_of_ble_eq_true rfl⟩ dX12_does_198 h
  · refine xx_aload_n C 125 rfl 2 dX12_does_124 rfl rfl ?_
    refine xx_iload_n C 126 rfl 1 dX12_does_125 rfl rfl ?_
    refine xx_iconst C 127 rfl dX12_does_126 ?_
    refine xx_icmp_ne (tgt := 134) C 130 rfl dX12_does_127 (by decide) h (fun h => ?_) (fun h => ?_)
    · refine xx_iconst C 135 rfl dX12_does_134 ?_
      refine xx_cVi (As := [.int (iI 0)]) (st := []) (o := 0) C 138 rfl (by decide) (ceM_0 _ _ _) rfl rfl ca_X12_makes cv_X12_makes w_1240 rfl ⟨Nat.le_of_ble_eq_true rfl, Nat.le_of_ble_eq_true rfl⟩ ⟨Nat.le_of_ble_eq_true rfl, Nat.le_of_ble_eq_true rfl⟩ (Nat.le_of_ble_eq_true rfl) dX12_does_135 (fun v135 μ135 e9 => c_X12_makes _ _ v135 μ135 e9) h (fun v135 μ135 h => ?_) rfl
      exact xx_iret C E rfl ⟨Nat.le_of_ble_eq_true rfl, Nat.le_of_ble_eq_true rfl⟩ dX12_does_138 h
    · refine xx_iconst C 131 rfl dX12_does_130 ?_
      refine xx_goto C 135 dX12_does_131 (by decide) ?_
      refine xx_cVi (As := [.int (iI 1)]) (st := []) (o := 0) C 138 rfl (by decide) (ceM_0 _ _ _) rfl rfl ca_X12_makes cv_X12_makes w_1240 rfl ⟨Nat.le_of_ble_eq_true rfl, Nat.le_of_ble_eq_true rfl⟩ ⟨Nat.le_of_ble_eq_true rfl, Nat.le_of_ble_eq_true rfl⟩ (Nat.le_of_ble_eq_true rfl) dX12_does_135 (fun v135 μ135 e9 => c_X12_makes _ _ v135 μ135 e9) h (fun v135 μ135 h => ?_) rfl
      exact xx_iret C E rfl ⟨Nat.le_of_ble_eq_true rfl, Nat.le_of_ble_eq_true rfl⟩ dX12_does_138 h
  · refine xx_aload_n C 140 rfl 2 dX12_does_139 rfl rfl ?_
    refine xx_iload_n C 141 rfl 1 dX12_does_140 rfl rfl ?_
    refine xx_iload_n C 142 rfl 0 dX12_does_141 rfl rfl ?_
    refine xx_aload_n C 143 rfl 2 dX12_does_142 rfl rfl ?_
    refine xx_getr (fi := 7) C 146 rfl (by decide) (ceM_0 _ _ _) rfl in_X12 (by decide) rfl rfl w_1178 dX12_does_143 ?_
    refine xx_iconst C 147 rfl dX12_does_146 ?_
    refine xx_iload_n C 148 rfl 3 dX12_does_147 rfl rfl ?_
    refine xx_imul C 149 rfl dX12_does_148 ?_
    refine xx_iconst C 150 rfl dX12_does_149 ?_
    refine xx_iadd C 151 rfl dX12_does_150 ?_
    refine xx_iaload C 152 rfl (by decide) (fun _ => rfl) (by decide) dX12_does_151 h (fun v151 h => ?_)
    refine xx_cVi (As := [.int (iI v9), .int (iI v20), .int (iI v151)]) (st := []) (o := 0) C 155 rfl (by decide) (ceM_0 _ _ _) rfl rfl ca_X12_ties cv_X12_ties w_1264 rfl ⟨Nat.le_of_ble_eq_true rfl, Nat.le_of_ble_eq_true rfl⟩ ⟨Nat.le_of_ble_eq_true rfl, Nat.le_of_ble_eq_true rfl⟩ (Nat.le_of_ble_eq_true rfl) dX12_does_152 (fun v152 μ152 e9 => c_X12_ties _ _ _ _ v152 μ152 e9) h (fun v152 μ152 h => ?_) rfl
    exact xx_iret C E rfl ⟨Nat.le_of_ble_eq_true rfl, Nat.le_of_ble_eq_true rfl⟩ dX12_does_155 h
  · refine xx_aload_n C 157 rfl 2 dX12_does_156 rfl rfl ?_
    refine xx_iload_n C 158 rfl 1 dX12_does_157 rfl rfl ?_
    refine xx_iload_n C 159 rfl 0 dX12_does_158 rfl rfl ?_
    refine xx_cVi (As := [.int (iI v9), .int (iI v20)]) (st := []) (o := 0) C 162 rfl (by decide) (ceM_0 _ _ _) rfl rfl ca_X12_unties cv_X12_unties w_1291 rfl ⟨Nat.le_of_ble_eq_true rfl, Nat.le_of_ble_eq_true rfl⟩ ⟨Nat.le_of_ble_eq_true rfl, Nat.le_of_ble_eq_true rfl⟩ (Nat.le_of_ble_eq_true rfl) dX12_does_159 (fun v159 μ159 e9 => c_X12_unties _ _ _ v159 μ159 e9) h (fun v159 μ159 h => ?_) rfl
    exact xx_iret C E rfl ⟨Nat.le_of_ble_eq_true rfl, Nat.le_of_ble_eq_true rfl⟩ dX12_does_162 h
  · refine xx_aload_n C 164 rfl 2 dX12_does_163 rfl rfl ?_
    refine xx_iload_n C 165 rfl 1 dX12_does_164 rfl rfl ?_
    refine xx_iload_n C 166 rfl 0 dX12_does_165 rfl rfl ?_
    refine xx_cVi (As := [.int (iI v9), .int (iI v20)]) (st := []) (o := 0) C 169 rfl (by decide) (ceM_0 _ _ _) rfl rfl ca_X12_names cv_X12_names w_1311 rfl ⟨Nat.le_of_ble_eq_true rfl, Nat.le_of_ble_eq_true rfl⟩ ⟨Nat.le_of_ble_eq_true rfl, Nat.le_of_ble_eq_true rfl⟩ (Nat.le_of_ble_eq_true rfl) dX12_does_166 (fun v166 μ166 e9 => c_X12_names _ _ _ v166 μ166 e9) h (fun v166 μ166 h => ?_) rfl
    exact xx_iret C E rfl ⟨Nat.le_of_ble_eq_true rfl, Nat.le_of_ble_eq_true rfl⟩ dX12_does_169 h
  · refine xx_aload_n C 171 rfl 2 dX12_does_170 rfl rfl ?_
    refine xx_iload_n C 172 rfl 1 dX12_does_171 rfl rfl ?_
    refine xx_cVi (As := [.int (iI v9)]) (st := []) (o := 0) C 175 rfl (by decide) (ceM_0 _ _ _) rfl rfl ca_X12_drops cv_X12_drops w_1319 rfl ⟨Nat.le_of_ble_eq_true rfl, Nat.le_of_ble_eq_true rfl⟩ ⟨Nat.le_of_ble_eq_true rfl, Nat.le_of_ble_eq_true rfl⟩ (Nat.le_of_ble_eq_true rfl) dX12_does_172 (fun v172 μ172 e9 => c_X12_drops _ _ v172 μ172 e9) h (fun v172 μ172 h => ?_) rfl
    exact xx_iret C E rfl ⟨Nat.le_of_ble_eq_true rfl, Nat.le_of_ble_eq_true rfl⟩ dX12_does_175 h
  · refine xx_aload_n C 177 rfl 2 dX12_does_176 rfl rfl ?_
    refine xx_iload_n C 178 rfl 1 dX12_does_177 rfl rfl ?_
    refine xx_iload_n C 179 rfl 0 dX12_does_178 rfl rfl ?_
    refine xx_cVi (As := [.int (iI v9), .int (iI v20)]) (st := []) (o := 0) C 182 rfl (by decide) (ceM_0 _ _ _) rfl rfl ca_X12_weakens cv_X12_weakens w_1299 rfl ⟨Nat.le_of_ble_eq_true rfl, Nat.le_of_ble_eq_true rfl⟩ ⟨Nat.le_of_ble_eq_true rfl, Nat.le_of_ble_eq_true rfl⟩ (Nat.le_of_ble_eq_true rfl) dX12_does_179 (fun v179 μ179 e9 => c_X12_weakens _ _ _ v179 μ179 e9) h (fun v179 μ179 h => ?_) rfl
    exact xx_iret C E rfl ⟨Nat.le_of_ble_eq_true rfl, Nat.le_of_ble_eq_true rfl⟩ dX12_does_182 h
  · refine xx_aload_n C 184 rfl 2 dX12_does_183 rfl rfl ?_
    refine xx_cVi (As := []) (st := []) (o := 0) C 187 rfl (by decide) (ceM_0 _ _ _) rfl rfl ca_X12_wholeRound cv_X12_wholeRound w_1391 rfl ⟨Nat.le_of_ble_eq_true rfl, Nat.le_of_ble_eq_true rfl⟩ ⟨Nat.le_of_ble_eq_true rfl, Nat.le_of_ble_eq_true rfl⟩ (Nat.le_of_ble_eq_true rfl) dX12_does_184 (fun v184 μ184 e9 => c_X12_wholeRound _ v184 μ184 e9) h (fun v184 μ184 h => ?_) rfl
    exact xx_iret C E rfl ⟨Nat.le_of_ble_eq_true rfl, Nat.le_of_ble_eq_true rfl⟩ dX12_does_187 h
  · refine xx_aload_n C 189 rfl 2 dX12_does_188 rfl rfl ?_
    refine xx_iload_n C 190 rfl 1 dX12_does_189 rfl rfl ?_
    refine xx_cVi (As := [.int (iI v9)]) (st := []) (o := 0) C 193 rfl (by decide) (ceM_0 _ _ _) rfl rfl ca_X12_stepsOn cv_X12_stepsOn w_1355 rfl ⟨Nat.le_of_ble_eq_true rfl, Nat.le_of_ble_eq_true rfl⟩ ⟨Nat.le_of_ble_eq_true rfl, Nat.le_of_ble_eq_true rfl⟩ (Nat.le_of_ble_eq_true rfl) dX12_does_190 (fun v190 μ190 e9 => c_X12_stepsOn _ _ v190 μ190 e9) h (fun v190 μ190 h => ?_) rfl
    exact xx_iret C E rfl ⟨Nat.le_of_ble_eq_true rfl, Nat.le_of_ble_eq_true rfl⟩ dX12_does_193 h

def f_X12_writes (μ : mu_T) (a1 : Int) : Option mu_T :=
  nm_ (μ 0 11) (fun v5 => wr_ μ 7 60 v5 a1 (fun μ9 => nm_ (μ9 0 11) (fun v12 => wf_ μ9 0 11 (v12 + 1) (fun μ17 => some μ17))))
set_option maxHeartbeats 4000000 in
set_option maxRecDepth 100000 in
theorem c_X12_writes {G : gp_} {ad : Nat → Nat} (μ : mu_T) (a1 : Int) (μr : mu_T) (h : f_X12_writes μ a1 = some μr) : mv_ yX12_writes cX12_writes 2 ({ frames := 0, cells := 0, slots := 0, locals := 0 } : Room) G 9 ad (ceM G ad) [.ref (ad 0), .int (iI a1)] μ μr := by
  refine mv_in (own := "UrnHeapModel") (lv := [(0, .ref (ad 0)), (1, .int (iI a1))]) (by decide) rfl rfl (Nat.le_of_ble_eq_true rfl) (fun X C E => ?_)
  unfold f_X12_writes at h
  refine xx_aload_n C 1 rfl 0 dX12_writes_0 rfl rfl ?_
  refine xx_getr (fi := 8) C 4 rfl (by decide) (ceM_0 _ _ _) rfl in_X12 (by decide) rfl rfl w_1179 dX12_writes_1 ?_
  refine xx_aload_n C 5 rfl 0 dX12_writes_4 rfl rfl ?_
  refine xx_geti (fi := 11) (j := 11) C 8 rfl (by decide) (ceM_0 _ _ _) rfl in_X12 (by decide) rfl rfl w_1182 dX12_writes_5 h (fun v5 h => ?_)
  refine xx_iload_n C 9 rfl 1 dX12_writes_8 rfl rfl ?_
  refine xx_iastore C 10 rfl (by decide) (fun _ => rfl) (by decide) dX12_writes_9 h (fun μ9 h => ?_)
  refine xx_aload_n C 11 rfl 0 dX12_writes_10 rfl rfl ?_
  refine xx_dup C 12 rfl dX12_writes_11 rfl ?_
  refine xx_geti (fi := 11) (j := 11) C 15 rfl (by decide) (ceM_0 _ _ _) rfl in_X12 (by decide) rfl rfl w_1182 dX12_writes_12 h (fun v12 h => ?_)
  refine xx_iconst C 16 rfl dX12_writes_15 ?_
  refine xx_iadd C 17 rfl dX12_writes_16 ?_
  refine xx_puti (fi := 11) (j := 11) C 20 rfl (by decide) (ceM_0 _ _ _) (puM_11 _ _ _ _) rfl in_X12 tyX12 tyX12_ok nmX12 (by decide) (Nat.le_of_ble_eq_true rfl) ⟨rfl, rfl, rfl⟩ w_1182 dX12_writes_17 h (fun μ17 h => ?_)
  exact xx_vret C E rfl ⟨Nat.le_of_ble_eq_true rfl, Nat.le_of_ble_eq_true rfl⟩ dX12_writes_20 h

def f_X12_writesNumber (μ : mu_T) (a1 : Int) : Option mu_T :=
  jn_ (φ := mu_T → Option mu_T) (fun μ17 => rm_ a1 10 (fun v23 => bd_ (f_X12_writes μ17 (48 + v23)) (fun μ25 => some μ25)))
      (fun J17 => lt_ 9 a1
      (dv_ a1 10 (fun v12 => bd_ (f_X12_writes μ (48 + v12)) (fun μ14 => J17 μ14)))
      (J17 μ))
set_option maxHeartbeats 4000000 in
set_option maxRecDepth 100000 in
theorem c_X12_writesNumber {G : gp_} {ad : Nat → Nat} (μ : mu_T) (a1 : Int) (μr : mu_T) (h : f_X12_writesNumber μ a1 = some μr) : mv_ yX12_writesNumber cX12_writesNumber 2 ({ frames := 1, cells := 0, slots := 0, locals := 21 } : Room) G 9 ad (ceM G ad) [.ref (ad 0), .int (iI a1)] μ μr := by
  refine mv_in (own := "UrnHeapModel") (lv := [(0, .ref (ad 0)), (1, .int (iI a1))]) (by decide) rfl rfl (Nat.le_of_ble_eq_true rfl) (fun X C E => ?_)
  unfold f_X12_writesNumber at h
  refine xx_iload_n C 1 rfl 1 dX12_writesNumber_0 rfl rfl ?_
  refine xx_bipush C 3 rfl dX12_writesNumber_1 (by decide) ?_
  refine jn_r (fun J => ∀ (μ17 : mu_T), J μ17 = some μr → wx_ G X 9 ad (ceM G ad) μ17 0 0 17 [(0, .ref (ad 0)), (1, .int (iI a1))] []) h (fun μ17 h => ?_) (fun J17 K17 h => ?_)
  · refine xx_aload_n C 18 rfl 0 dX12_writesNumber_17 rfl rfl ?_
    refine xx_bipush C 20 rfl dX12_writesNumber_18 (by decide) ?_
    refine xx_iload_n C 21 rfl 1 dX12_writesNumber_20 rfl rfl ?_
    refine xx_bipush C 23 rfl dX12_writesNumber_21 (by decide) ?_
    refine xx_irem C 24 rfl dX12_writesNumber_23 h (fun v23 h => ?_)
    refine xx_iadd C 25 rfl dX12_writesNumber_24 ?_
    refine xx_cVv (As := [.int (iI (48 + v23))]) (st := []) (o := 0) C 28 rfl (by decide) (ceM_0 _ _ _) rfl rfl ca_X12_writes cv_X12_writes w_1529 rfl ⟨Nat.le_of_ble_eq_true rfl, Nat.le_of_ble_eq_true rfl⟩ ⟨Nat.le_of_ble_eq_true rfl, Nat.le_of_ble_eq_true rfl⟩ (Nat.le_of_ble_eq_true rfl) dX12_writesNumber_25 (fun μ25 e9 => c_X12_writes _ _ μ25 e9) h (fun μ25 h => ?_) rfl
    exact xx_vret C E rfl ⟨Nat.le_of_ble_eq_true rfl, Nat.le_of_ble_eq_true rfl⟩ dX12_writesNumber_28 h
  · refine xx_icmp_le (tgt := 17) C 6 rfl dX12_writesNumber_3 (by decide) h (fun h => ?_) (fun h => ?_)
    · exact K17 μ h
    · refine xx_aload_n C 7 rfl 0 dX12_writesNumber_6 rfl rfl ?_
      refine xx_bipush C 9 rfl dX12_writesNumber_7 (by decide) ?_
      refine xx_iload_n C 10 rfl 1 dX12_writesNumber_9 rfl rfl ?_
      refine xx_bipush C 12 rfl dX12_writesNumber_10 (by decide) ?_
      refine xx_idiv C 13 rfl dX12_writesNumber_12 h (fun v12 h => ?_)
      refine xx_iadd C 14 rfl dX12_writesNumber_13 ?_
      refine xx_cVv (As := [.int (iI (48 + v12))]) (st := []) (o := 0) C 17 rfl (by decide) (ceM_0 _ _ _) rfl rfl ca_X12_writes cv_X12_writes w_1529 rfl ⟨Nat.le_of_ble_eq_true rfl, Nat.le_of_ble_eq_true rfl⟩ ⟨Nat.le_of_ble_eq_true rfl, Nat.le_of_ble_eq_true rfl⟩ (Nat.le_of_ble_eq_true rfl) dX12_writesNumber_14 (fun μ14 e9 => c_X12_writes _ _ μ14 e9) h (fun μ14 h => ?_) rfl
      exact K17 μ14 h

def f_X12_tell_L65 (J124 : mu_T → Option (Int × mu_T)) (a1 : Int) : Nat → Int → mu_T → Option (Int × mu_T)
  | 0, _, _ => none
  | fu65 + 1, x2_65, μ65 => lt_ x2_65 4
      (jn_ (φ := mu_T → Option (Int × mu_T)) (fun μ80 => bd_ (f_X12_at μ80 a1 x2_65) (fun v86 => rd_ μ80 1 293 v86 (fun v89 => jn_ (φ := mu_T → Option (Int × mu_T)) (fun μ118 => nm_ (x2_65 + 1) (fun n118 => (f_X12_tell_L65 J124 a1 fu65) n118 μ118))
      (fun J118 => eq_ v89 (-15)
      (bd_ (f_X12_writes μ80 45) (fun μ98 => J118 μ98))
      (bd_ (f_X12_at μ80 a1 x2_65) (fun v111 => rd_ μ80 1 293 v111 (fun v114 => bd_ (f_X12_writesNumber μ80 v114) (fun μ115 => J118 μ115))))))))
      (fun J80 => lt_ 0 x2_65
      (bd_ (f_X12_writes μ65 44) (fun μ77 => J80 μ77))
      (J80 μ65)))
      (J124 μ65)
def f_X12_tell (μ : mu_T) (a1 : Int) : Option (Int × mu_T) :=
  bd_ (f_X12_isUrn μ a1) (fun v2 => eq_ v2 0
      (some ((-11), μ))
      (wf_ μ 0 11 0 (fun μ13 => bd_ (f_X12_writesNumber μ13 a1) (fun μ18 => rd_ μ18 1 293 (65 + a1) (fun v29 => jn_ (φ := mu_T → Option (Int × mu_T)) (fun μ57 => bd_ (f_X12_writes μ57 58) (fun μ60 => jn_ (φ := mu_T → Option (Int × mu_T)) (fun μ124 => rd_ μ124 1 293 (113 + a1) (fun v132 => eq_ v132 (-15)
      (nm_ (μ124 0 11) (fun v139 => some (v139, μ124)))
      (bd_ (f_X12_writes μ124 126) (fun μ146 => rd_ μ146 1 293 (113 + a1) (fun v158 => bd_ (f_X12_writesNumber μ146 v158) (fun μ159 => nm_ (μ159 0 11) (fun v163 => some (v163, μ159))))))))
      (fun J124 => f_X12_tell_L65 J124 a1 20000 0 μ60)))
      (fun J57 => lt_ 0 v29
      (rd_ μ18 1 293 (65 + a1) (fun v42 => jn_ (φ := Int → Option (Int × mu_T)) (fun s0_54 => bd_ (f_X12_writes μ18 s0_54) (fun μ54 => J57 μ54))
      (fun J54 => eq_ v42 1
      (J54 33)
      (J54 63))))
      (J57 μ18)))))))
set_option maxHeartbeats 4000000 in
set_option maxRecDepth 100000 in
theorem c_X12_tell {G : gp_} {ad : Nat → Nat} (μ : mu_T) (a1 : Int) (a : Int) (μr : mu_T) (h : f_X12_tell μ a1 = some (a, μr)) : mi_ yX12_tell cX12_tell 3 (some .int) ({ frames := 2, cells := 0, slots := 0, locals := 43 } : Room) G 9 ad (ceM G ad) [.ref (ad 0), .int (iI a1)] μ a μr := by
  refine mi_in (own := "UrnHeapModel") (lv := [(0, .ref (ad 0)), (1, .int (iI a1))]) (by decide) rfl rfl (Nat.le_of_ble_eq_true rfl) (fun X C E => ?_)
  unfold f_X12_tell at h
  refine xx_aload_n C 1 rfl 0 dX12_tell_0 rfl rfl ?_
  refine xx_iload_n C 2 rfl 1 dX12_tell_1 rfl rfl ?_
  refine xx_cVip (As := [.int (iI a1)]) (st := []) (o := 0) C 5 rfl (by decide) (ceM_0 _ _ _) rfl rfl ca_X12_isUrn cv_X12_isUrn w_1268 rfl ⟨Nat.le_of_ble_eq_true rfl, Nat.le_of_ble_eq_true rfl⟩ ⟨Nat.le_of_ble_eq_true rfl, Nat.le_of_ble_eq_true rfl⟩ (Nat.le_of_ble_eq_true rfl) dX12_tell_2 (fun v2 e9 => c_X12_isUrn _ _ v2 e9) h (fun v2 h => ?_) rfl
  refine xx_if_ne (tgt := 11) C 8 rfl dX12_tell_5 (by decide) h (fun h => ?_) (fun h => ?_)
  · refine xx_aload_n C 12 rfl 0 dX12_tell_11 rfl rfl ?_
    refine xx_iconst C 13 rfl dX12_tell_12 ?_
    refine xx_puti (fi := 11) (j := 11) C 16 rfl (by decide) (ceM_0 _ _ _) (puM_11 _ _ _ _) rfl in_X12 tyX12 tyX12_ok nmX12 (by decide) (Nat.le_of_ble_eq_true rfl) ⟨rfl, rfl, rfl⟩ w_1182 dX12_tell_13 h (fun μ13 h => ?_)
    refine xx_aload_n C 17 rfl 0 dX12_tell_16 rfl rfl ?_
    refine xx_iload_n C 18 rfl 1 dX12_tell_17 rfl rfl ?_
    refine xx_cVv (As := [.int (iI a1)]) (st := []) (o := 0) C 21 rfl (by decide) (ceM_0 _ _ _) rfl rfl ca_X12_writesNumber cv_X12_writesNumber w_1525 rfl ⟨Nat.le_of_ble_eq_true rfl, Nat.le_of_ble_eq_true rfl⟩ ⟨Nat.le_of_ble_eq_true rfl, Nat.le_of_ble_eq_true rfl⟩ (Nat.le_of_ble_eq_true rfl) dX12_tell_18 (fun μ18 e9 => c_X12_writesNumber _ _ μ18 e9) h (fun μ18 h => ?_) rfl
    refine xx_aload_n C 22 rfl 0 dX12_tell_21 rfl rfl ?_
    refine xx_getr (fi := 0) C 25 rfl (by decide) (ceM_0 _ _ _) rfl in_X12 (by decide) rfl rfl w_1171 dX12_tell_22 ?_
    refine xx_bipush C 27 rfl dX12_tell_25 (by decide) ?_
    refine xx_iload_n C 28 rfl 1 dX12_tell_27 rfl rfl ?_
    refine xx_iadd C 29 rfl dX12_tell_28 ?_
    refine xx_iaload C 30 rfl (by decide) (fun _ => rfl) (by decide) dX12_tell_29 h (fun v29 h => ?_)
    refine jn_r (fun J => ∀ (μ57 : mu_T), J μ57 = some (a, μr) → wx_ G X 9 ad (ceM G ad) μ57 0 0 57 [(0, .ref (ad 0)), (1, .int (iI a1))] []) h (fun μ57 h => ?_) (fun J57 K57 h => ?_)
    · refine xx_aload_n C 58 rfl 0 dX12_tell_57 rfl rfl ?_
      refine xx_bipush C 60 rfl dX12_tell_58 (by decide) ?_
      refine xx_cVv (As := [.int (iI 58)]) (st := []) (o := 0) C 63 rfl (by decide) (ceM_0 _ _ _) rfl rfl ca_X12_writes cv_X12_writes w_1529 rfl ⟨Nat.le_of_ble_eq_true rfl, Nat.le_of_ble_eq_true rfl⟩ ⟨Nat.le_of_ble_eq_true rfl, Nat.le_of_ble_eq_true rfl⟩ (Nat.le_of_ble_eq_true rfl) dX12_tell_60 (fun μ60 e9 => c_X12_writes _ _ μ60 e9) h (fun μ60 h => ?_) rfl
      refine xx_iconst C 64 rfl dX12_tell_63 ?_
      refine xx_istore_n (lv1 := [(2, .int (iI 0)), (0, .ref (ad 0)), (1, .int (iI a1))]) C 65 rfl (by decide) dX12_tell_64 rfl rfl ?_
      refine jn_r (fun J => ∀ (μ124 : mu_T), J μ124 = some (a, μr) → wx_ G X 9 ad (ceM G ad) μ124 0 0 124 [(0, .ref (ad 0)), (1, .int (iI a1))] []) h (fun μ124 h => ?_) (fun J124 K124 h => ?_)
      · refine xx_aload_n C 125 rfl 0 dX12_tell_124 rfl rfl ?_
        refine xx_getr (fi := 0) C 128 rfl (by decide) (ceM_0 _ _ _) rfl in_X12 (by decide) rfl rfl w_1171 dX12_tell_125 ?_
        refine xx_bipush C 130 rfl dX12_tell_128 (by decide) ?_
        refine xx_iload_n C 131 rfl 1 dX12_tell_130 rfl rfl ?_
        refine xx_iadd C 132 rfl dX12_tell_131 ?_
        refine xx_iaload C 133 rfl (by decide) (fun _ => rfl) (by decide) dX12_tell_132 h (fun v132 h => ?_)
        refine xx_bipush C 135 rfl dX12_tell_133 (by decide) ?_
        refine xx_icmp_ne (tgt := 143) C 138 rfl dX12_tell_135 (by decide) h (fun h => ?_) (fun h => ?_)
        · refine xx_aload_n C 144 rfl 0 dX12_tell_143 rfl rfl ?_
          refine xx_bipush C 146 rfl dX12_tell_144 (by decide) ?_
          refine xx_cVv (As := [.int (iI 126)]) (st := []) (o := 0) C 149 rfl (by decide) (ceM_0 _ _ _) rfl rfl ca_X12_writes cv_X12_writes w_1529 rfl ⟨Nat.le_of_ble_eq_true rfl, Nat.le_of_ble_eq_true rfl⟩ ⟨Nat.le_of_ble_eq_true rfl, Nat.le_of_ble_eq_true rfl⟩ (Nat.le_of_ble_eq_true rfl) dX12_tell_146 (fun μ146 e9 => c_X12_writes _ _ μ146 e9) h (fun μ146 h => ?_) rfl
          refine xx_aload_n C 150 rfl 0 dX12_tell_149 rfl rfl ?_
          refine xx_aload_n C 151 rfl 0 dX12_tell_150 rfl rfl ?_
          refine xx_getr (fi := 0) C 154 rfl (by decide) (ceM_0 _ _ _) rfl in_X12 (by decide) rfl rfl w_1171 dX12_tell_151 ?_
          refine xx_bipush C 156 rfl dX12_tell_154 (by decide) ?_
          refine xx_iload_n C 157 rfl 1 dX12_tell_156 rfl rfl ?_
          refine xx_iadd C 158 rfl dX12_tell_157 ?_
          refine xx_iaload C 159 rfl (by decide) (fun _ => rfl) (by decide) dX12_tell_158 h (fun v158 h => ?_)
          refine xx_cVv (As := [.int (iI v158)]) (st := []) (o := 0) C 162 rfl (by decide) (ceM_0 _ _ _) rfl rfl ca_X12_writesNumber cv_X12_writesNumber w_1525 rfl ⟨Nat.le_of_ble_eq_true rfl, Nat.le_of_ble_eq_true rfl⟩ ⟨Nat.le_of_ble_eq_true rfl, Nat.le_of_ble_eq_true rfl⟩ (Nat.le_of_ble_eq_true rfl) dX12_tell_159 (fun μ159 e9 => c_X12_writesNumber _ _ μ159 e9) h (fun μ159 h => ?_) rfl
          refine xx_aload_n C 163 rfl 0 dX12_tell_162 rfl rfl ?_
          refine xx_geti (fi := 11) (j := 11) C 166 rfl (by decide) (ceM_0 _ _ _) rfl in_X12 (by decide) rfl rfl w_1182 dX12_tell_163 h (fun v163 h => ?_)
          exact xx_iret C E rfl ⟨Nat.le_of_ble_eq_true rfl, Nat.le_of_ble_eq_true rfl⟩ dX12_tell_166 h
        · refine xx_aload_n C 139 rfl 0 dX12_tell_138 rfl rfl ?_
          refine xx_geti (fi := 11) (j := 11) C 142 rfl (by decide) (ceM_0 _ _ _) rfl in_X12 (by decide) rfl rfl w_1182 dX12_tell_139 h (fun v139 h => ?_)
          exact xx_iret C E rfl ⟨Nat.le_of_ble_eq_true rfl, Nat.le_of_ble_eq_true rfl⟩ dX12_tell_142 h
      · have L65 : ∀ (fu65 : Nat) (x2_65 : Int) (μ65 : mu_T), f_X12_tell_L65 J124 a1 fu65 x2_65 μ65 = some (a, μr) → wx_ G X 9 ad (ceM G ad) μ65 0 0 65 [(0, .ref (ad 0)), (1, .int (iI a1)), (2, .int (iI x2_65))] [] := by
          intro fu65
          induction fu65 with
          | zero => intro x2_65 μ65 h; exact nn_ h
          | succ fu65 K65 =>
            intro x2_65 μ65 h
            rw [f_X12_tell_L65] at h
            generalize f_X12_tell_L65 J124 a1 fu65 = R65 at K65 h
            refine xx_iload_n C 66 rfl 2 dX12_tell_65 rfl rfl ?_
            refine xx_iconst C 67 rfl dX12_tell_66 ?_
            refine xx_icmp_ge (tgt := 124) C 70 rfl dX12_tell_67 (by decide) h (fun h => ?_) (fun h => ?_)
            · refine xx_sub [0, 1] rfl ?_
              exact K124 μ65 h
            · refine xx_iload_n C 71 rfl 2 dX12_tell_70 rfl rfl ?_
              refine jn_r (fun J => ∀ (μ80 : mu_T), J μ80 = some (a, μr) → wx_ G X 9 ad (ceM G ad) μ80 0 0 80 [(0, .ref (ad 0)), (1, .int (iI a1)), (2, .int (iI x2_65))] []) h (fun μ80 h => ?_) (fun J80 K80 h => ?_)
              · refine xx_aload_n C 81 rfl 0 dX12_tell_80 rfl rfl ?_
                refine xx_getr (fi := 0) C 84 rfl (by decide) (ceM_0 _ _ _) rfl in_X12 (by decide) rfl rfl w_1171 dX12_tell_81 ?_
                refine xx_iload_n C 85 rfl 1 dX12_tell_84 rfl rfl ?_
                refine xx_iload_n C 86 rfl 2 dX12_tell_85 rfl rfl ?_
                refine xx_cSip (As := [.int (iI a1), .int (iI x2_65)]) (st := [.ref (ad 1)]) C 89 rfl  ca_X12_at cs_X12_at w_1168 rfl ⟨Nat.le_of_ble_eq_true rfl, Nat.le_of_ble_eq_true rfl⟩ ⟨Nat.le_of_ble_eq_true rfl, Nat.le_of_ble_eq_true rfl⟩ (Nat.le_of_ble_eq_true rfl) dX12_tell_86 (fun v86 e9 => c_X12_at _ _ _ v86 e9) h (fun v86 h => ?_) rfl
                refine xx_iaload C 90 rfl (by decide) (fun _ => rfl) (by decide) dX12_tell_89 h (fun v89 h => ?_)
                refine xx_bipush C 92 rfl dX12_tell_90 (by decide) ?_
                refine jn_r (fun J => ∀ (μ118 : mu_T), J μ118 = some (a, μr) → wx_ G X 9 ad (ceM G ad) μ118 0 0 118 [(0, .ref (ad 0)), (1, .int (iI a1)), (2, .int (iI x2_65))] []) h (fun μ118 h => ?_) (fun J118 K118 h => ?_)
                · refine xx_iincn C 121 rfl 2 (by decide) dX12_tell_118 rfl h (fun n118 h => ?_)
                  refine xx_lv (lv1 := [(2, .int (iI n118)), (0, .ref (ad 0)), (1, .int (iI a1))]) rfl ?_
                  refine xx_goto C 65 dX12_tell_121 (by decide) ?_
                  refine xx_sub [1, 2, 0] rfl ?_
                  exact K65 n118 μ118 h
                · refine xx_icmp_ne (tgt := 104) C 95 rfl dX12_tell_92 (by decide) h (fun h => ?_) (fun h => ?_)
                  · refine xx_aload_n C 105 rfl 0 dX12_tell_104 rfl rfl ?_
                    refine xx_aload_n C 106 rfl 0 dX12_tell_105 rfl rfl ?_
                    refine xx_getr (fi := 0) C 109 rfl (by decide) (ceM_0 _ _ _) rfl in_X12 (by decide) rfl rfl w_1171 dX12_tell_106 ?_
                    refine xx_iload_n C 110 rfl 1 dX12_tell_109 rfl rfl ?_
                    refine xx_iload_n C 111 rfl 2 dX12_tell_110 rfl rfl ?_
                    refine xx_cSip (As := [.int (iI a1), .int (iI x2_65)]) (st := [.ref (ad 1), .ref (ad 0)]) C 114 rfl  ca_X12_at cs_X12_at w_1168 rfl ⟨Nat.le_of_ble_eq_true rfl, Nat.le_of_ble_eq_true rfl⟩ ⟨Nat.le_of_ble_eq_true rfl, Nat.le_of_ble_eq_true rfl⟩ (Nat.le_of_ble_eq_true rfl) dX12_tell_111 (fun v111 e9 => c_X12_at _ _ _ v111 e9) h (fun v111 h => ?_) rfl
                    refine xx_iaload C 115 rfl (by decide) (fun _ => rfl) (by decide) dX12_tell_114 h (fun v114 h => ?_)
                    refine xx_cVv (As := [.int (iI v114)]) (st := []) (o := 0) C 118 rfl (by decide) (ceM_0 _ _ _) rfl rfl ca_X12_writesNumber cv_X12_writesNumber w_1525 rfl ⟨Nat.le_of_ble_eq_true rfl, Nat.le_of_ble_eq_true rfl⟩ ⟨Nat.le_of_ble_eq_true rfl, Nat.le_of_ble_eq_true rfl⟩ (Nat.le_of_ble_eq_true rfl) dX12_tell_115 (fun μ115 e9 => c_X12_writesNumber _ _ μ115 e9) h (fun μ115 h => ?_) rfl
                    exact K118 μ115 h
                  · refine xx_aload_n C 96 rfl 0 dX12_tell_95 rfl rfl ?_
                    refine xx_bipush C 98 rfl dX12_tell_96 (by decide) ?_
                    refine xx_cVv (As := [.int (iI 45)]) (st := []) (o := 0) C 101 rfl (by decide) (ceM_0 _ _ _) rfl rfl ca_X12_writes cv_X12_writes w_1529 rfl ⟨Nat.le_of_ble_eq_true rfl, Nat.le_of_ble_eq_true rfl⟩ ⟨Nat.le_of_ble_eq_true rfl, Nat.le_of_ble_eq_true rfl⟩ (Nat.le_of_ble_eq_true rfl) dX12_tell_98 (fun μ98 e9 => c_X12_writes _ _ μ98 e9) h (fun μ98 h => ?_) rfl
                    refine xx_goto C 118 dX12_tell_101 (by decide) ?_
                    exact K118 μ98 h
              · refine xx_if_le (tgt := 80) C 74 rfl dX12_tell_71 (by decide) h (fun h => ?_) (fun h => ?_)
                · exact K80 μ65 h
                · refine xx_aload_n C 75 rfl 0 dX12_tell_74 rfl rfl ?_
                  refine xx_bipush C 77 rfl dX12_tell_75 (by decide) ?_
                  refine xx_cVv (As := [.int (iI 44)]) (st := []) (o := 0) C 80 rfl (by decide) (ceM_0 _ _ _) rfl rfl ca_X12_writes cv_X12_writes w_1529 rfl ⟨Nat.le_of_ble_eq_true rfl, Nat.le_of_ble_eq_true rfl⟩ ⟨Nat.le_of_ble_eq_true rfl, Nat.le_of_ble_eq_true rfl⟩ (Nat.le_of_ble_eq_true rfl) dX12_tell_77 (fun μ77 e9 => c_X12_writes _ _ μ77 e9) h (fun μ77 h => ?_) rfl
                  exact K80 μ77 h
        refine xx_sub [1, 2, 0] rfl ?_
        exact L65 _ _ _ h
    · refine xx_if_le (tgt := 57) C 33 rfl dX12_tell_30 (by decide) h (fun h => ?_) (fun h => ?_)
      · exact K57 μ18 h
      · refine xx_aload_n C 34 rfl 0 dX12_tell_33 rfl rfl ?_
        refine xx_aload_n C 35 rfl 0 dX12_tell_34 rfl rfl ?_
        refine xx_getr (fi := 0) C 38 rfl (by decide) (ceM_0 _ _ _) rfl in_X12 (by decide) rfl rfl w_1171 dX12_tell_35 ?_
        refine xx_bipush C 40 rfl dX12_tell_38 (by decide) ?_
        refine xx_iload_n C 41 rfl 1 dX12_tell_40 rfl rfl ?_
        refine xx_iadd C 42 rfl dX12_tell_41 ?_
        refine xx_iaload C 43 rfl (by decide) (fun _ => rfl) (by decide) dX12_tell_42 h (fun v42 h => ?_)
        refine xx_iconst C 44 rfl dX12_tell_43 ?_
        refine jn_r (fun J => ∀ (s0_54 : Int), J s0_54 = some (a, μr) → wx_ G X 9 ad (ceM G ad) μ18 0 0 54 [(0, .ref (ad 0)), (1, .int (iI a1))] [.int (iI s0_54), .ref (ad 0)]) h (fun s0_54 h => ?_) (fun J54 K54 h => ?_)
        · refine xx_cVv (As := [.int (iI s0_54)]) (st := []) (o := 0) C 57 rfl (by decide) (ceM_0 _ _ _) rfl rfl ca_X12_writes cv_X12_writes w_1529 rfl ⟨Nat.le_of_ble_eq_true rfl, Nat.le_of_ble_eq_true rfl⟩ ⟨Nat.le_of_ble_eq_true rfl, Nat.le_of_ble_eq_true rfl⟩ (Nat.le_of_ble_eq_true rfl) dX12_tell_54 (fun μ54 e9 => c_X12_writes _ _ μ54 e9) h (fun μ54 h => ?_) rfl
          exact K57 μ54 h
        · refine xx_icmp_ne (tgt := 52) C 47 rfl dX12_tell_44 (by decide) h (fun h => ?_) (fun h => ?_)
          · refine xx_bipush C 54 rfl dX12_tell_52 (by decide) ?_
            exact K54 63 h
          · refine xx_bipush C 49 rfl dX12_tell_47 (by decide) ?_
            refine xx_goto C 54 dX12_tell_49 (by decide) ?_
            exact K54 33 h
  · refine xx_bipush C 10 rfl dX12_tell_8 (by decide) ?_
    exact xx_iret C E rfl ⟨Nat.le_of_ble_eq_true rfl, Nat.le_of_ble_eq_true rfl⟩ dX12_tell_10 h
end
section
theorem dX12_tellHeap_0 : decode cX12_tellHeap 0 = .ok (.aload_n 0, 1) := by decide +kernel
theorem dX12_tellHeap_1 : decode cX12_tellHeap 1 = .ok (.iconst 0, 1) := by decide +kernel
theorem dX12_tellHeap_2 : decode cX12_tellHeap 2 = .ok (.putfield 247, 3) := by decide +kernel
theorem dX12_tellHeap_5 : decode cX12_tellHeap 5 = .ok (.iconst 0, 1) := by decide +kernel
theorem dX12_tellHeap_6 : decode cX12_tellHeap 6 = .ok (.istore_n 1, 1) := by decide +kernel
theorem dX12_tellHeap_7 : decode cX12_tellHeap 7 = .ok (.iload_n 1, 1) := by decide +kernel
theorem dX12_tellHeap_8 : decode cX12_tellHeap 8 = .ok (.bipush 24, 2) := by decide +kernel
theorem dX12_tellHeap_10 : decode cX12_tellHeap 10 = .ok (.if_icmp .ge 67, 3) := by decide +kernel
theorem dX12_tellHeap_13 : decode cX12_tellHeap 13 = .ok (.aload_n 0, 1) := by decide +kernel
theorem dX12_tellHeap_14 : decode cX12_tellHeap 14 = .ok (.aload_n 0, 1) := by decide +kernel
theorem dX12_tellHeap_15 : decode cX12_tellHeap 15 = .ok (.getfield 7, 3) := by decide +kernel
theorem dX12_tellHeap_18 : decode cX12_tellHeap 18 = .ok (.bipush 17, 2) := by decide +kernel
theorem dX12_tellHeap_20 : decode cX12_tellHeap 20 = .ok (.iload_n 1, 1) := by decide +kernel
theorem dX12_tellHeap_21 : decode cX12_tellHeap 21 = .ok (.iadd, 1) := by decide +kernel
theorem dX12_tellHeap_22 : decode cX12_tellHeap 22 = .ok (.iaload, 1) := by decide +kernel
theorem dX12_tellHeap_23 : decode cX12_tellHeap 23 = .ok (.ifCond .ne 8, 3) := by decide +kernel
theorem dX12_tellHeap_26 : decode cX12_tellHeap 26 = .ok (.bipush 46, 2) := by decide +kernel
theorem dX12_tellHeap_28 : decode cX12_tellHeap 28 = .ok (.goto 40, 3) := by decide +kernel
theorem dX12_tellHeap_31 : decode cX12_tellHeap 31 = .ok (.aload_n 0, 1) := by decide +kernel
theorem dX12_tellHeap_32 : decode cX12_tellHeap 32 = .ok (.getfield 7, 3) := by decide +kernel
theorem dX12_tellHeap_35 : decode cX12_tellHeap 35 = .ok (.bipush 41, 2) := by decide +kernel
theorem dX12_tellHeap_37 : decode cX12_tellHeap 37 = .ok (.iload_n 1, 1) := by decide +kernel
theorem dX12_tellHeap_38 : decode cX12_tellHeap 38 = .ok (.iadd, 1) := by decide +kernel
theorem dX12_tellHeap_39 : decode cX12_tellHeap 39 = .ok (.iaload, 1) := by decide +kernel
theorem dX12_tellHeap_40 : decode cX12_tellHeap 40 = .ok (.ifCond .ne 8, 3) := by decide +kernel
theorem dX12_tellHeap_43 : decode cX12_tellHeap 43 = .ok (.bipush 119, 2) := by decide +kernel
theorem dX12_tellHeap_45 : decode cX12_tellHeap 45 = .ok (.goto 23, 3) := by decide +kernel
theorem dX12_tellHeap_48 : decode cX12_tellHeap 48 = .ok (.aload_n 0, 1) := by decide +kernel
theorem dX12_tellHeap_49 : decode cX12_tellHeap 49 = .ok (.getfield 7, 3) := by decide +kernel
theorem dX12_tellHeap_52 : decode cX12_tellHeap 52 = .ok (.bipush 41, 2) := by decide +kernel
theorem dX12_tellHeap_54 : decode cX12_tellHeap 54 = .ok (.iload_n 1, 1) := by decide +kernel
theorem dX12_tellHeap_55 : decode cX12_tellHeap 55 = .ok (.iadd, 1) := by decide +kernel
theorem dX12_tellHeap_56 : decode cX12_tellHeap 56 = .ok (.iaload, 1) := by decide +kernel
theorem dX12_tellHeap_57 : decode cX12_tellHeap 57 = .ok (.iconst 1, 1) := by decide +kernel
theorem dX12_tellHeap_58 : decode cX12_tellHeap 58 = .ok (.if_icmp .ne 8, 3) := by decide +kernel
theorem dX12_tellHeap_61 : decode cX12_tellHeap 61 = .ok (.bipush 103, 2) := by decide +kernel
theorem dX12_tellHeap_63 : decode cX12_tellHeap 63 = .ok (.goto 5, 3) := by decide +kernel
theorem dX12_tellHeap_66 : decode cX12_tellHeap 66 = .ok (.bipush 98, 2) := by decide +kernel
theorem dX12_tellHeap_68 : decode cX12_tellHeap 68 = .ok (.invokevirtual 250, 3) := by decide +kernel
theorem dX12_tellHeap_71 : decode cX12_tellHeap 71 = .ok (.iinc 1 1, 3) := by decide +kernel
theorem dX12_tellHeap_74 : decode cX12_tellHeap 74 = .ok (.goto (-67), 3) := by decide +kernel
theorem dX12_tellHeap_77 : decode cX12_tellHeap 77 = .ok (.aload_n 0, 1) := by decide +kernel
theorem dX12_tellHeap_78 : decode cX12_tellHeap 78 = .ok (.getfield 247, 3) := by decide +kernel
theorem dX12_tellHeap_81 : decode cX12_tellHeap 81 = .ok (.ireturn, 1) := by decide +kernel
theorem dX12_character_0 : decode cX12_character 0 = .ok (.iload_n 1, 1) := by decide +kernel
theorem dX12_character_1 : decode cX12_character 1 = .ok (.iconst 0, 1) := by decide +kernel
theorem dX12_character_2 : decode cX12_character 2 = .ok (.aload_n 0, 1) := by decide +kernel
theorem dX12_character_3 : decode cX12_character 3 = .ok (.getfield 247, 3) := by decide +kernel
theorem dX12_character_6 : decode cX12_character 6 = .ok (.iconst 1, 1) := by decide +kernel
theorem dX12_character_7 : decode cX12_character 7 = .ok (.isub, 1) := by decide +kernel
theorem dX12_character_8 : decode cX12_character 8 = .ok (.invokestatic 58, 3) := by decide +kernel
theorem dX12_character_11 : decode cX12_character 11 = .ok (.ifCond .eq 12, 3) := by decide +kernel
theorem dX12_character_14 : decode cX12_character 14 = .ok (.aload_n 0, 1) := by decide +kernel
theorem dX12_character_15 : decode cX12_character 15 = .ok (.getfield 28, 3) := by decide +kernel
theorem dX12_character_18 : decode cX12_character 18 = .ok (.iload_n 1, 1) := by decide +kernel
theorem dX12_character_19 : decode cX12_character 19 = .ok (.iaload, 1) := by decide +kernel
theorem dX12_character_20 : decode cX12_character 20 = .ok (.goto 5, 3) := by decide +kernel
theorem dX12_character_23 : decode cX12_character 23 = .ok (.bipush (-11), 2) := by decide +kernel
theorem dX12_character_25 : decode cX12_character 25 = .ok (.ireturn, 1) := by decide +kernel
theorem dX12_reason_0 : decode cX12_reason 0 = .ok (.aload_n 0, 1) := by decide +kernel
theorem dX12_reason_1 : decode cX12_reason 1 = .ok (.getfield 52, 3) := by decide +kernel
theorem dX12_reason_4 : decode cX12_reason 4 = .ok (.ifCond .ne 8, 3) := by decide +kernel
theorem dX12_reason_7 : decode cX12_reason 7 = .ok (.bipush (-15), 2) := by decide +kernel
theorem dX12_reason_9 : decode cX12_reason 9 = .ok (.goto 18, 3) := by decide +kernel
theorem dX12_reason_12 : decode cX12_reason 12 = .ok (.iload_n 1, 1) := by decide +kernel
theorem dX12_reason_13 : decode cX12_reason 13 = .ok (.ifCond .eq 10, 3) := by decide +kernel
theorem dX12_reason_16 : decode cX12_reason 16 = .ok (.aload_n 0, 1) := by decide +kernel
theorem dX12_reason_17 : decode cX12_reason 17 = .ok (.getfield 55, 3) := by decide +kernel
theorem dX12_reason_20 : decode cX12_reason 20 = .ok (.goto 7, 3) := by decide +kernel
theorem dX12_reason_23 : decode cX12_reason 23 = .ok (.aload_n 0, 1) := by decide +kernel
theorem dX12_reason_24 : decode cX12_reason 24 = .ok (.getfield 52, 3) := by decide +kernel
theorem dX12_reason_27 : decode cX12_reason 27 = .ok (.ireturn, 1) := by decide +kernel
theorem dX12_manyUrns_0 : decode cX12_manyUrns 0 = .ok (.iconst 0, 1) := by decide +kernel
theorem dX12_manyUrns_1 : decode cX12_manyUrns 1 = .ok (.istore_n 1, 1) := by decide +kernel
theorem dX12_manyUrns_2 : decode cX12_manyUrns 2 = .ok (.iconst 0, 1) := by decide +kernel
theorem dX12_manyUrns_3 : decode cX12_manyUrns 3 = .ok (.istore_n 2, 1) := by decide +kernel
theorem dX12_manyUrns_4 : decode cX12_manyUrns 4 = .ok (.iload_n 2, 1) := by decide +kernel
theorem dX12_manyUrns_5 : decode cX12_manyUrns 5 = .ok (.bipush 24, 2) := by decide +kernel
theorem dX12_manyUrns_7 : decode cX12_manyUrns 7 = .ok (.if_icmp .ge 21, 3) := by decide +kernel
theorem dX12_manyUrns_10 : decode cX12_manyUrns 10 = .ok (.iload_n 1, 1) := by decide +kernel
theorem dX12_manyUrns_11 : decode cX12_manyUrns 11 = .ok (.aload_n 0, 1) := by decide +kernel
theorem dX12_manyUrns_12 : decode cX12_manyUrns 12 = .ok (.getfield 7, 3) := by decide +kernel
theorem dX12_manyUrns_15 : decode cX12_manyUrns 15 = .ok (.bipush 17, 2) := by decide +kernel
theorem dX12_manyUrns_17 : decode cX12_manyUrns 17 = .ok (.iload_n 2, 1) := by decide +kernel
theorem dX12_manyUrns_18 : decode cX12_manyUrns 18 = .ok (.iadd, 1) := by decide +kernel
theorem dX12_manyUrns_19 : decode cX12_manyUrns 19 = .ok (.iaload, 1) := by decide +kernel
theorem dX12_manyUrns_20 : decode cX12_manyUrns 20 = .ok (.iadd, 1) := by decide +kernel
theorem dX12_manyUrns_21 : decode cX12_manyUrns 21 = .ok (.istore_n 1, 1) := by decide +kernel
theorem dX12_manyUrns_22 : decode cX12_manyUrns 22 = .ok (.iinc 2 1, 3) := by decide +kernel
theorem dX12_manyUrns_25 : decode cX12_manyUrns 25 = .ok (.goto (-21), 3) := by decide +kernel
theorem dX12_manyUrns_28 : decode cX12_manyUrns 28 = .ok (.iload_n 1, 1) := by decide +kernel
theorem dX12_manyUrns_29 : decode cX12_manyUrns 29 = .ok (.ireturn, 1) := by decide +kernel
theorem dX12_namesUsed_0 : decode cX12_namesUsed 0 = .ok (.iconst 0, 1) := by decide +kernel
theorem dX12_namesUsed_1 : decode cX12_namesUsed 1 = .ok (.istore_n 1, 1) := by decide +kernel
theorem dX12_namesUsed_2 : decode cX12_namesUsed 2 = .ok (.iconst 0, 1) := by decide +kernel
theorem dX12_namesUsed_3 : decode cX12_namesUsed 3 = .ok (.istore_n 2, 1) := by decide +kernel
theorem dX12_namesUsed_4 : decode cX12_namesUsed 4 = .ok (.iload_n 2, 1) := by decide +kernel
theorem dX12_namesUsed_5 : decode cX12_namesUsed 5 = .ok (.bipush 6, 2) := by decide +kernel
theorem dX12_namesUsed_7 : decode cX12_namesUsed 7 = .ok (.if_icmp .ge 31, 3) := by decide +kernel
theorem dX12_namesUsed_10 : decode cX12_namesUsed 10 = .ok (.iload_n 1, 1) := by decide +kernel
theorem dX12_namesUsed_11 : decode cX12_namesUsed 11 = .ok (.aload_n 0, 1) := by decide +kernel
theorem dX12_namesUsed_12 : decode cX12_namesUsed 12 = .ok (.getfield 7, 3) := by decide +kernel
theorem dX12_namesUsed_15 : decode cX12_namesUsed 15 = .ok (.bipush 11, 2) := by decide +kernel
theorem dX12_namesUsed_17 : decode cX12_namesUsed 17 = .ok (.iload_n 2, 1) := by decide +kernel
theorem dX12_namesUsed_18 : decode cX12_namesUsed 18 = .ok (.iadd, 1) := by decide +kernel
theorem dX12_namesUsed_19 : decode cX12_namesUsed 19 = .ok (.iaload, 1) := by decide +kernel
theorem dX12_namesUsed_20 : decode cX12_namesUsed 20 = .ok (.bipush (-15), 2) := by decide +kernel
theorem dX12_namesUsed_22 : decode cX12_namesUsed 22 = .ok (.if_icmp .ne 7, 3) := by decide +kernel
theorem dX12_namesUsed_25 : decode cX12_namesUsed 25 = .ok (.iconst 0, 1) := by decide +kernel
theorem dX12_namesUsed_26 : decode cX12_namesUsed 26 = .ok (.goto 4, 3) := by decide +kernel
theorem dX12_namesUsed_29 : decode cX12_namesUsed 29 = .ok (.iconst 1, 1) := by decide +kernel
theorem dX12_namesUsed_30 : decode cX12_namesUsed 30 = .ok (.iadd, 1) := by decide +kernel
theorem dX12_namesUsed_31 : decode cX12_namesUsed 31 = .ok (.istore_n 1, 1) := by decide +kernel
theorem dX12_namesUsed_32 : decode cX12_namesUsed 32 = .ok (.iinc 2 1, 3) := by decide +kernel
theorem dX12_namesUsed_35 : decode cX12_namesUsed 35 = .ok (.goto (-31), 3) := by decide +kernel
theorem dX12_namesUsed_38 : decode cX12_namesUsed 38 = .ok (.iload_n 1, 1) := by decide +kernel
theorem dX12_namesUsed_39 : decode cX12_namesUsed 39 = .ok (.ireturn, 1) := by decide +kernel
theorem dX12_isThere_0 : decode cX12_isThere 0 = .ok (.iload_n 1, 1) := by decide +kernel
theorem dX12_isThere_1 : decode cX12_isThere 1 = .ok (.bipush (-15), 2) := by decide +kernel
theorem dX12_isThere_3 : decode cX12_isThere 3 = .ok (.if_icmp .eq 11, 3) := by decide +kernel
theorem dX12_isThere_6 : decode cX12_isThere 6 = .ok (.aload_n 0, 1) := by decide +kernel
theorem dX12_isThere_7 : decode cX12_isThere 7 = .ok (.iload_n 1, 1) := by decide +kernel
theorem dX12_isThere_8 : decode cX12_isThere 8 = .ok (.invokevirtual 97, 3) := by decide +kernel
theorem dX12_isThere_11 : decode cX12_isThere 11 = .ok (.ifCond .eq 7, 3) := by decide +kernel
theorem dX12_isThere_14 : decode cX12_isThere 14 = .ok (.iconst 1, 1) := by decide +kernel
theorem dX12_isThere_15 : decode cX12_isThere 15 = .ok (.goto 4, 3) := by decide +kernel
theorem dX12_isThere_18 : decode cX12_isThere 18 = .ok (.iconst 0, 1) := by decide +kernel
theorem dX12_isThere_19 : decode cX12_isThere 19 = .ok (.ireturn, 1) := by decide +kernel
theorem dX12_undo_0 : decode cX12_undo 0 = .ok (.aload_n 0, 1) := by decide +kernel
theorem dX12_undo_1 : decode cX12_undo 1 = .ok (.getfield 38, 3) := by decide +kernel
theorem dX12_undo_4 : decode cX12_undo 4 = .ok (.ifCond .ne 6, 3) := by decide +kernel
theorem dX12_undo_7 : decode cX12_undo 7 = .ok (.bipush (-15), 2) := by decide +kernel
theorem dX12_undo_9 : decode cX12_undo 9 = .ok (.ireturn, 1) := by decide +kernel
theorem dX12_undo_10 : decode cX12_undo 10 = .ok (.aload_n 0, 1) := by decide +kernel
theorem dX12_undo_11 : decode cX12_undo 11 = .ok (.dup, 1) := by decide +kernel
theorem dX12_undo_12 : decode cX12_undo 12 = .ok (.getfield 38, 3) := by decide +kernel
theorem dX12_undo_15 : decode cX12_undo 15 = .ok (.iconst 1, 1) := by decide +kernel
theorem dX12_undo_16 : decode cX12_undo 16 = .ok (.isub, 1) := by decide +kernel
theorem dX12_undo_17 : decode cX12_undo 17 = .ok (.putfield 38, 3) := by decide +kernel
theorem dX12_undo_20 : decode cX12_undo 20 = .ok (.iconst 0, 1) := by decide +kernel
theorem dX12_undo_21 : decode cX12_undo 21 = .ok (.istore_n 1, 1) := by decide +kernel
theorem dX12_undo_22 : decode cX12_undo 22 = .ok (.iload_n 1, 1) := by decide +kernel
theorem dX12_undo_23 : decode cX12_undo 23 = .ok (.sipush 293, 3) := by decide +kernel
theorem dX12_undo_26 : decode cX12_undo 26 = .ok (.if_icmp .ge 30, 3) := by decide +kernel
theorem dX12_undo_29 : decode cX12_undo 29 = .ok (.aload_n 0, 1) := by decide +kernel
theorem dX12_undo_30 : decode cX12_undo 30 = .ok (.getfield 7, 3) := by decide +kernel
theorem dX12_undo_33 : decode cX12_undo 33 = .ok (.iload_n 1, 1) := by decide +kernel
theorem dX12_undo_34 : decode cX12_undo 34 = .ok (.aload_n 0, 1) := by decide +kernel
theorem dX12_undo_35 : decode cX12_undo 35 = .ok (.getfield 19, 3) := by decide +kernel
theorem dX12_undo_38 : decode cX12_undo 38 = .ok (.sipush 293, 3) := by decide +kernel
theorem dX12_undo_41 : decode cX12_undo 41 = .ok (.aload_n 0, 1) := by decide +kernel
theorem dX12_undo_42 : decode cX12_undo 42 = .ok (.getfield 38, 3) := by decide +kernel
theorem dX12_undo_45 : decode cX12_undo 45 = .ok (.imul, 1) := by decide +kernel
theorem dX12_undo_46 : decode cX12_undo 46 = .ok (.iload_n 1, 1) := by decide +kernel
theorem dX12_undo_47 : decode cX12_undo 47 = .ok (.iadd, 1) := by decide +kernel
theorem dX12_undo_48 : decode cX12_undo 48 = .ok (.iaload, 1) := by decide +kernel
theorem dX12_undo_49 : decode cX12_undo 49 = .ok (.iastore, 1) := by decide +kernel
theorem dX12_undo_50 : decode cX12_undo 50 = .ok (.iinc 1 1, 3) := by decide +kernel
theorem dX12_undo_53 : decode cX12_undo 53 = .ok (.goto (-31), 3) := by decide +kernel
theorem dX12_undo_56 : decode cX12_undo 56 = .ok (.aload_n 0, 1) := by decide +kernel
theorem dX12_undo_57 : decode cX12_undo 57 = .ok (.getfield 38, 3) := by decide +kernel
theorem dX12_undo_60 : decode cX12_undo 60 = .ok (.ireturn, 1) := by decide +kernel
theorem dX12_save_0 : decode cX12_save 0 = .ok (.iconst 0, 1) := by decide +kernel
theorem dX12_save_1 : decode cX12_save 1 = .ok (.istore_n 1, 1) := by decide +kernel
theorem dX12_save_2 : decode cX12_save 2 = .ok (.iload_n 1, 1) := by decide +kernel
theorem dX12_save_3 : decode cX12_save 3 = .ok (.sipush 293, 3) := by decide +kernel
theorem dX12_save_6 : decode cX12_save 6 = .ok (.if_icmp .ge 21, 3) := by decide +kernel
theorem dX12_save_9 : decode cX12_save 9 = .ok (.aload_n 0, 1) := by decide +kernel
theorem dX12_save_10 : decode cX12_save 10 = .ok (.getfield 16, 3) := by decide +kernel
theorem dX12_save_13 : decode cX12_save 13 = .ok (.iload_n 1, 1) := by decide +kernel
theorem dX12_save_14 : decode cX12_save 14 = .ok (.aload_n 0, 1) := by decide +kernel
theorem dX12_save_15 : decode cX12_save 15 = .ok (.getfield 7, 3) := by decide +kernel
theorem dX12_save_18 : decode cX12_save 18 = .ok (.iload_n 1, 1) := by decide +kernel
theorem dX12_save_19 : decode cX12_save 19 = .ok (.iaload, 1) := by decide +kernel
theorem dX12_save_20 : decode cX12_save 20 = .ok (.iastore, 1) := by decide +kernel
theorem dX12_save_21 : decode cX12_save 21 = .ok (.iinc 1 1, 3) := by decide +kernel
theorem dX12_save_24 : decode cX12_save 24 = .ok (.goto (-22), 3) := by decide +kernel
theorem dX12_save_27 : decode cX12_save 27 = .ok (.aload_n 0, 1) := by decide +kernel
theorem dX12_save_28 : decode cX12_save 28 = .ok (.iconst 1, 1) := by decide +kernel
theorem dX12_save_29 : decode cX12_save 29 = .ok (.putfield 271, 3) := by decide +kernel
theorem dX12_save_32 : decode cX12_save 32 = .ok (.aload_n 0, 1) := by decide +kernel
theorem dX12_save_33 : decode cX12_save 33 = .ok (.invokevirtual 259, 3) := by decide +kernel
theorem dX12_save_36 : decode cX12_save 36 = .ok (.ireturn, 1) := by decide +kernel
theorem dX12_restore_0 : decode cX12_restore 0 = .ok (.aload_n 0, 1) := by decide +kernel
theorem dX12_restore_1 : decode cX12_restore 1 = .ok (.getfield 271, 3) := by decide +kernel
theorem dX12_restore_4 : decode cX12_restore 4 = .ok (.ifCond .ne 6, 3) := by decide +kernel
theorem dX12_restore_7 : decode cX12_restore 7 = .ok (.bipush (-15), 2) := by decide +kernel
theorem dX12_restore_9 : decode cX12_restore 9 = .ok (.ireturn, 1) := by decide +kernel
theorem dX12_restore_10 : decode cX12_restore 10 = .ok (.iconst 0, 1) := by decide +kernel
theorem dX12_restore_11 : decode cX12_restore 11 = .ok (.istore_n 1, 1) := by decide +kernel
theorem dX12_restore_12 : decode cX12_restore 12 = .ok (.iload_n 1, 1) := by decide +kernel
theorem dX12_restore_13 : decode cX12_restore 13 = .ok (.sipush 293, 3) := by decide +kernel
theorem dX12_restore_16 : decode cX12_restore 16 = .ok (.if_icmp .ge 21, 3) := by decide +kernel
theorem dX12_restore_19 : decode cX12_restore 19 = .ok (.aload_n 0, 1) := by decide +kernel
theorem dX12_restore_20 : decode cX12_restore 20 = .ok (.getfield 7, 3) := by decide +kernel
theorem dX12_restore_23 : decode cX12_restore 23 = .ok (.iload_n 1, 1) := by decide +kernel
theorem dX12_restore_24 : decode cX12_restore 24 = .ok (.aload_n 0, 1) := by decide +kernel
theorem dX12_restore_25 : decode cX12_restore 25 = .ok (.getfield 16, 3) := by decide +kernel
theorem dX12_restore_28 : decode cX12_restore 28 = .ok (.iload_n 1, 1) := by decide +kernel
theorem dX12_restore_29 : decode cX12_restore 29 = .ok (.iaload, 1) := by decide +kernel
theorem dX12_restore_30 : decode cX12_restore 30 = .ok (.iastore, 1) := by decide +kernel
theorem dX12_restore_31 : decode cX12_restore 31 = .ok (.iinc 1 1, 3) := by decide +kernel
theorem dX12_restore_34 : decode cX12_restore 34 = .ok (.goto (-22), 3) := by decide +kernel
theorem dX12_restore_37 : decode cX12_restore 37 = .ok (.aload_n 0, 1) := by decide +kernel
theorem dX12_restore_38 : decode cX12_restore 38 = .ok (.iconst 0, 1) := by decide +kernel
theorem dX12_restore_39 : decode cX12_restore 39 = .ok (.putfield 38, 3) := by decide +kernel
theorem dX12_restore_42 : decode cX12_restore 42 = .ok (.aload_n 0, 1) := by decide +kernel
theorem dX12_restore_43 : decode cX12_restore 43 = .ok (.invokevirtual 259, 3) := by decide +kernel
theorem dX12_restore_46 : decode cX12_restore 46 = .ok (.ireturn, 1) := by decide +kernel
def f_X12_tellHeap_L7  : Nat → Int → mu_T → Option (Int × mu_T)
  | 0, _, _ => none
  | fu7 + 1, x1_7, μ7 => lt_ x1_7 24
      (rd_ μ7 1 293 (17 + x1_7) (fun v22 => jn_ (φ := Int → Option (Int × mu_T)) (fun s0_68 => bd_ (f_X12_writes μ7 s0_68) (fun μ68 => nm_ (x1_7 + 1) (fun n71 => (f_X12_tellHeap_L7 fu7) n71 μ68)))
      (fun J68 => eq_ v22 0
      (J68 46)
      (rd_ μ7 1 293 (41 + x1_7) (fun v39 => eq_ v39 0
      (J68 119)
      (rd_ μ7 1 293 (41 + x1_7) (fun v56 => eq_ v56 1
      (J68 103)
      (J68 98))))))))
      (nm_ (μ7 0 11) (fun v78 => some (v78, μ7)))
def f_X12_tellHeap (μ : mu_T)  : Option (Int × mu_T) :=
  wf_ μ 0 11 0 (fun μ2 => f_X12_tellHeap_L7 20000 0 μ2)
set_option maxHeartbeats 4000000 in
set_option maxRecDepth 100000 in
theorem c_X12_tellHeap {G : gp_} {ad : Nat → Nat} (μ : mu_T)  (a : Int) (μr : mu_T) (h : f_X12_tellHeap μ  = some (a, μr)) : mi_ yX12_tellHeap cX12_tellHeap 2 (some .int) ({ frames := 1, cells := 0, slots := 0, locals := 21 } : Room) G 9 ad (ceM G ad) [.ref (ad 0)] μ a μr := by
  refine mi_in (own := "UrnHeapModel") (lv := [(0, .ref (ad 0))]) (by decide) rfl rfl (Nat.le_of_ble_eq_true rfl) (fun X C E => ?_)
  unfold f_X12_tellHeap at h
  refine xx_aload_n C 1 rfl 0 dX12_tellHeap_0 rfl rfl ?_
  refine xx_iconst C 2 rfl dX12_tellHeap_1 ?_
  refine xx_puti (fi := 11) (j := 11) C 5 rfl (by decide) (ceM_0 _ _ _) (puM_11 _ _ _ _) rfl in_X12 tyX12 tyX12_ok nmX12 (by decide) (Nat.le_of_ble_eq_true rfl) ⟨rfl, rfl, rfl⟩ w_1182 dX12_tellHeap_2 h (fun μ2 h => ?_)
  refine xx_iconst C 6 rfl dX12_tellHeap_5 ?_
  refine xx_istore_n (lv1 := [(1, .int (iI 0)), (0, .ref (ad 0))]) C 7 rfl (by decide) dX12_tellHeap_6 rfl rfl ?_
  have L7 : ∀ (fu7 : Nat) (x1_7 : Int) (μ7 : mu_T), f_X12_tellHeap_L7 fu7 x1_7 μ7 = some (a, μr) → wx_ G X 9 ad (ceM G ad) μ7 0 0 7 [(0, .ref (ad 0)), (1, .int (iI x1_7))] [] := by
    intro fu7
    induction fu7 with
    | zero => intro x1_7 μ7 h; exact nn_ h
    | succ fu7 K7 =>
      intro x1_7 μ7 h
      rw [f_X12_tellHeap_L7] at h
      generalize f_X12_tellHeap_L7 fu7 = R7 at K7 h
      refine xx_iload_n C 8 rfl 1 dX12_tellHeap_7 rfl rfl ?_
      refine xx_bipush C 10 rfl dX12_tellHeap_8 (by decide) ?_
      refine xx_icmp_ge (tgt := 77) C 13 rfl dX12_tellHeap_10 (by decide) h (fun h => ?_) (fun h => ?_)
      · refine xx_aload_n C 78 rfl 0 dX12_tellHeap_77 rfl rfl ?_
        refine xx_geti (fi := 11) (j := 11) C 81 rfl (by decide) (ceM_0 _ _ _) rfl in_X12 (by decide) rfl rfl w_1182 dX12_tellHeap_78 h (fun v78 h => ?_)
        exact xx_iret C E rfl ⟨Nat.le_of_ble_eq_true rfl, Nat.le_of_ble_eq_true rfl⟩ dX12_tellHeap_81 h
      · refine xx_aload_n C 14 rfl 0 dX12_tellHeap_13 rfl rfl ?_
        refine xx_aload_n C 15 rfl 0 dX12_tellHeap_14 rfl rfl ?_
        refine xx_getr (fi := 0) C 18 rfl (by decide) (ceM_0 _ _ _) rfl in_X12 (by decide) rfl rfl w_1171 dX12_tellHeap_15 ?_
        refine xx_bipush C 20 rfl dX12_tellHeap_18 (by decide) ?_
        refine xx_iload_n C 21 rfl 1 dX12_tellHeap_20 rfl rfl ?_
        refine xx_iadd C 22 rfl dX12_tellHeap_21 ?_
        refine xx_iaload C 23 rfl (by decide) (fun _ => rfl) (by decide) dX12_tellHeap_22 h (fun v22 h => ?_)
        refine jn_r (fun J => ∀ (s0_68 : Int), J s0_68 = some (a, μr) → wx_ G X 9 ad (ceM G ad) μ7 0 0 68 [(0, .ref (ad 0)), (1, .int (iI x1_7))] [.int (iI s0_68), .ref (ad 0)]) h (fun s0_68 h => ?_) (fun J68 K68 h => ?_)
        · refine xx_cVv (As := [.int (iI s0_68)]) (st := []) (o := 0) C 71 rfl (by decide) (ceM_0 _ _ _) rfl rfl ca_X12_writes cv_X12_writes w_1529 rfl ⟨Nat.le_of_ble_eq_true rfl, Nat.le_of_ble_eq_true rfl⟩ ⟨Nat.le_of_ble_eq_true rfl, Nat.le_of_ble_eq_true rfl⟩ (Nat.le_of_ble_eq_true rfl) dX12_tellHeap_68 (fun μ68 e9 => c_X12_writes _ _ μ68 e9) h (fun μ68 h => ?_) rfl
          refine xx_iincn C 74 rfl 1 (by decide) dX12_tellHeap_71 rfl h (fun n71 h => ?_)
          refine xx_lv (lv1 := [(1, .int (iI n71)), (0, .ref (ad 0))]) rfl ?_
          refine xx_goto C 7 dX12_tellHeap_74 (by decide) ?_
          refine xx_sub [1, 0] rfl ?_
          exact K7 n71 μ68 h
        · refine xx_if_ne (tgt := 31) C 26 rfl dX12_tellHeap_23 (by decide) h (fun h => ?_) (fun h => ?_)
          · refine xx_aload_n C 32 rfl 0 dX12_tellHeap_31 rfl rfl ?_
            refine xx_getr (fi := 0) C 35 rfl (by decide) (ceM_0 _ _ _) rfl in_X12 (by decide) rfl rfl w_1171 dX12_tellHeap_32 ?_
            refine xx_bipush C 37 rfl dX12_tellHeap_35 (by decide) ?_
            refine xx_iload_n C 38 rfl 1 dX12_tellHeap_37 rfl rfl ?_
            refine xx_iadd C 39 rfl dX12_tellHeap_38 ?_
            refine xx_iaload C 40 rfl (by decide) (fun _ => rfl) (by decide) dX12_tellHeap_39 h (fun v39 h => ?_)
            refine xx_if_ne (tgt := 48) C 43 rfl dX12_tellHeap_40 (by decide) h (fun h => ?_) (fun h => ?_)
            · refine xx_aload_n C 49 rfl 0 dX12_tellHeap_48 rfl rfl ?_
              refine xx_getr (fi := 0) C 52 rfl (by decide) (ceM_0 _ _ _) rfl in_X12 (by decide) rfl rfl w_1171 dX12_tellHeap_49 ?_
              refine xx_bipush C 54 rfl dX12_tellHeap_52 (by decide) ?_
              refine xx_iload_n C 55 rfl 1 dX12_tellHeap_54 rfl rfl ?_
              refine xx_iadd C 56 rfl dX12_tellHeap_55 ?_
              refine xx_iaload C 57 rfl (by decide) (fun _ => rfl) (by decide) dX12_tellHeap_56 h (fun v56 h => ?_)
              refine xx_iconst C 58 rfl dX12_tellHeap_57 ?_
              refine xx_icmp_ne (tgt := 66) C 61 rfl dX12_tellHeap_58 (by decide) h (fun h => ?_) (fun h => ?_)
              · refine xx_bipush C 68 rfl dX12_tellHeap_66 (by decide) ?_
                exact K68 98 h
              · refine xx_bipush C 63 rfl dX12_tellHeap_61 (by decide) ?_
                refine xx_goto C 68 dX12_tellHeap_63 (by decide) ?_
                exact K68 103 h
            · refine xx_bipush C 45 rfl dX12_tellHeap_43 (by decide) ?_
              refine xx_goto C 68 dX12_tellHeap_45 (by decide) ?_
              exact K68 119 h
          · refine xx_bipush C 28 rfl dX12_tellHeap_26 (by decide) ?_
            refine xx_goto C 68 dX12_tellHeap_28 (by decide) ?_
            exact K68 46 h
  refine xx_sub [1, 0] rfl ?_
  exact L7 _ _ _ h

def f_X12_character (μ : mu_T) (a1 : Int) : Option Int :=
  nm_ (μ 0 11) (fun v3 => bd_ (f_X12_in μ a1 0 (v3 - 1)) (fun v8 => eq_ v8 0
      (some (-11))
      (rd_ μ 7 60 a1 (fun v19 => some v19))))
set_option maxHeartbeats 4000000 in
set_option maxRecDepth 100000 in
theorem c_X12_character {G : gp_} {ad : Nat → Nat} (μ : mu_T) (a1 : Int) (a : Int) (h : f_X12_character μ a1 = some a) : mi_ yX12_character cX12_character 2 (some .int) ({ frames := 1, cells := 0, slots := 0, locals := 22 } : Room) G 9 ad (ceM G ad) [.ref (ad 0), .int (iI a1)] μ a μ := by
  refine mi_in (own := "UrnHeapModel") (lv := [(0, .ref (ad 0)), (1, .int (iI a1))]) (by decide) rfl rfl (Nat.le_of_ble_eq_true rfl) (fun X C E => ?_)
  unfold f_X12_character at h
  refine xx_iload_n C 1 rfl 1 dX12_character_0 rfl rfl ?_
  refine xx_iconst C 2 rfl dX12_character_1 ?_
  refine xx_aload_n C 3 rfl 0 dX12_character_2 rfl rfl ?_
  refine xx_geti (fi := 11) (j := 11) C 6 rfl (by decide) (ceM_0 _ _ _) rfl in_X12 (by decide) rfl rfl w_1182 dX12_character_3 h (fun v3 h => ?_)
  refine xx_iconst C 7 rfl dX12_character_6 ?_
  refine xx_isub C 8 rfl dX12_character_7 ?_
  refine xx_cSip (As := [.int (iI a1), .int (iI 0), .int (iI (v3 - 1))]) (st := []) C 11 rfl  ca_X12_in cs_X12_in w_1272 rfl ⟨Nat.le_of_ble_eq_true rfl, Nat.le_of_ble_eq_true rfl⟩ ⟨Nat.le_of_ble_eq_true rfl, Nat.le_of_ble_eq_true rfl⟩ (Nat.le_of_ble_eq_true rfl) dX12_character_8 (fun v8 e9 => c_X12_in _ _ _ _ v8 e9) h (fun v8 h => ?_) rfl
  refine xx_if_eq (tgt := 23) C 14 rfl dX12_character_11 (by decide) h (fun h => ?_) (fun h => ?_)
  · refine xx_bipush C 25 rfl dX12_character_23 (by decide) ?_
    exact xx_iretp C E rfl ⟨Nat.le_of_ble_eq_true rfl, Nat.le_of_ble_eq_true rfl⟩ dX12_character_25 h
  · refine xx_aload_n C 15 rfl 0 dX12_character_14 rfl rfl ?_
    refine xx_getr (fi := 8) C 18 rfl (by decide) (ceM_0 _ _ _) rfl in_X12 (by decide) rfl rfl w_1179 dX12_character_15 ?_
    refine xx_iload_n C 19 rfl 1 dX12_character_18 rfl rfl ?_
    refine xx_iaload C 20 rfl (by decide) (fun _ => rfl) (by decide) dX12_character_19 h (fun v19 h => ?_)
    refine xx_goto C 25 dX12_character_20 (by decide) ?_
    exact xx_iretp C E rfl ⟨Nat.le_of_ble_eq_true rfl, Nat.le_of_ble_eq_true rfl⟩ dX12_character_25 h

def f_X12_reason (μ : mu_T) (a1 : Int) : Option Int :=
  nm_ (μ 0 12) (fun v1 => eq_ v1 0
      (some (-15))
      (eq_ a1 0
      (nm_ (μ 0 12) (fun v24 => some v24))
      (nm_ (μ 0 13) (fun v17 => some v17))))
set_option maxHeartbeats 4000000 in
set_option maxRecDepth 100000 in
theorem c_X12_reason {G : gp_} {ad : Nat → Nat} (μ : mu_T) (a1 : Int) (a : Int) (h : f_X12_reason μ a1 = some a) : mi_ yX12_reason cX12_reason 2 (some .int) ({ frames := 0, cells := 0, slots := 0, locals := 0 } : Room) G 9 ad (ceM G ad) [.ref (ad 0), .int (iI a1)] μ a μ := by
  refine mi_in (own := "UrnHeapModel") (lv := [(0, .ref (ad 0)), (1, .int (iI a1))]) (by decide) rfl rfl (Nat.le_of_ble_eq_true rfl) (fun X C E => ?_)
  unfold f_X12_reason at h
  refine xx_aload_n C 1 rfl 0 dX12_reason_0 rfl rfl ?_
  refine xx_geti (fi := 12) (j := 12) C 4 rfl (by decide) (ceM_0 _ _ _) rfl in_X12 (by decide) rfl rfl w_1183 dX12_reason_1 h (fun v1 h => ?_)
  refine xx_if_ne (tgt := 12) C 7 rfl dX12_reason_4 (by decide) h (fun h => ?_) (fun h => ?_)
  · refine xx_iload_n C 13 rfl 1 dX12_reason_12 rfl rfl ?_
    refine xx_if_eq (tgt := 23) C 16 rfl dX12_reason_13 (by decide) h (fun h => ?_) (fun h => ?_)
    · refine xx_aload_n C 24 rfl 0 dX12_reason_23 rfl rfl ?_
      refine xx_geti (fi := 12) (j := 12) C 27 rfl (by decide) (ceM_0 _ _ _) rfl in_X12 (by decide) rfl rfl w_1183 dX12_reason_24 h (fun v24 h => ?_)
      exact xx_iretp C E rfl ⟨Nat.le_of_ble_eq_true rfl, Nat.le_of_ble_eq_true rfl⟩ dX12_reason_27 h
    · refine xx_aload_n C 17 rfl 0 dX12_reason_16 rfl rfl ?_
      refine xx_geti (fi := 13) (j := 13) C 20 rfl (by decide) (ceM_0 _ _ _) rfl in_X12 (by decide) rfl rfl w_1184 dX12_reason_17 h (fun v17 h => ?_)
      refine xx_goto C 27 dX12_reason_20 (by decide) ?_
      exact xx_iretp C E rfl ⟨Nat.le_of_ble_eq_true rfl, Nat.le_of_ble_eq_true rfl⟩ dX12_reason_27 h
  · refine xx_bipush C 9 rfl dX12_reason_7 (by decide) ?_
    refine xx_goto C 27 dX12_reason_9 (by decide) ?_
    exact xx_iretp C E rfl ⟨Nat.le_of_ble_eq_true rfl, Nat.le_of_ble_eq_true rfl⟩ dX12_reason_27 h

def f_X12_manyUrns_L4 (μ : mu_T) : Nat → Int → Int → Option Int
  | 0, _, _ => none
  | fu4 + 1, x1_4, x2_4 => lt_ x2_4 24
      (rd_ μ 1 293 (17 + x2_4) (fun v19 => nm_ ((x1_4 + v19)) (fun n21 => nm_ (x2_4 + 1) (fun n22 => (f_X12_manyUrns_L4 μ fu4) n21 n22))))
      (some x1_4)
def f_X12_manyUrns (μ : mu_T)  : Option Int :=
  f_X12_manyUrns_L4 μ 20000 0 0
set_option maxHeartbeats 4000000 in
set_option maxRecDepth 100000 in
theorem c_X12_manyUrns {G : gp_} {ad : Nat → Nat} (μ : mu_T)  (a : Int) (h : f_X12_manyUrns μ  = some a) : mi_ yX12_manyUrns cX12_manyUrns 3 (some .int) ({ frames := 0, cells := 0, slots := 0, locals := 0 } : Room) G 9 ad (ceM G ad) [.ref (ad 0)] μ a μ := by
  refine mi_in (own := "UrnHeapModel") (lv := [(0, .ref (ad 0))]) (by decide) rfl rfl (Nat.le_of_ble_eq_true rfl) (fun X C E => ?_)
  unfold f_X12_manyUrns at h
  refine xx_iconst C 1 rfl dX12_manyUrns_0 ?_
  refine xx_istore_n (lv1 := [(1, .int (iI 0)), (0, .ref (ad 0))]) C 2 rfl (by decide) dX12_manyUrns_1 rfl rfl ?_
  refine xx_iconst C 3 rfl dX12_manyUrns_2 ?_
  refine xx_istore_n (lv1 := [(2, .int (iI 0)), (1, .int (iI 0)), (0, .ref (ad 0))]) C 4 rfl (by decide) dX12_manyUrns_3 rfl rfl ?_
  have L4 : ∀ (fu4 : Nat) (x1_4 : Int) (x2_4 : Int), f_X12_manyUrns_L4 μ fu4 x1_4 x2_4 = some a → wx_ G X 9 ad (ceM G ad) μ 0 0 4 [(0, .ref (ad 0)), (1, .int (iI x1_4)), (2, .int (iI x2_4))] [] := by
    intro fu4
    induction fu4 with
    | zero => intro x1_4 x2_4 h; exact nn_ h
    | succ fu4 K4 =>
      intro x1_4 x2_4 h
      rw [f_X12_manyUrns_L4] at h
      generalize f_X12_manyUrns_L4 μ fu4 = R4 at K4 h
      refine xx_iload_n C 5 rfl 2 dX12_manyUrns_4 rfl rfl ?_
      refine xx_bipush C 7 rfl dX12_manyUrns_5 (by decide) ?_
      refine xx_icmp_ge (tgt := 28) C 10 rfl dX12_manyUrns_7 (by decide) h (fun h => ?_) (fun h => ?_)
      · refine xx_iload_n C 29 rfl 1 dX12_manyUrns_28 rfl rfl ?_
        exact xx_iretp C E rfl ⟨Nat.le_of_ble_eq_true rfl, Nat.le_of_ble_eq_true rfl⟩ dX12_manyUrns_29 h
      · refine xx_iload_n C 11 rfl 1 dX12_manyUrns_10 rfl rfl ?_
        refine xx_aload_n C 12 rfl 0 dX12_manyUrns_11 rfl rfl ?_
        refine xx_getr (fi := 0) C 15 rfl (by decide) (ceM_0 _ _ _) rfl in_X12 (by decide) rfl rfl w_1171 dX12_manyUrns_12 ?_
        refine xx_bipush C 17 rfl dX12_manyUrns_15 (by decide) ?_
        refine xx_iload_n C 18 rfl 2 dX12_manyUrns_17 rfl rfl ?_
        refine xx_iadd C 19 rfl dX12_manyUrns_18 ?_
        refine xx_iaload C 20 rfl (by decide) (fun _ => rfl) (by decide) dX12_manyUrns_19 h (fun v19 h => ?_)
        refine xx_iadd C 21 rfl dX12_manyUrns_20 ?_
        refine xx_nm C h (fun n21 h => ?_)
        refine xx_istore_n (lv1 := [(1, .int (iI n21)), (0, .ref (ad 0)), (2, .int (iI x2_4))]) C 22 rfl (by decide) dX12_manyUrns_21 rfl rfl ?_
        refine xx_iincn C 25 rfl 2 (by decide) dX12_manyUrns_22 rfl h (fun n22 h => ?_)
        refine xx_lv (lv1 := [(2, .int (iI n22)), (1, .int (iI n21)), (0, .ref (ad 0))]) rfl ?_
        refine xx_goto C 4 dX12_manyUrns_25 (by decide) ?_
        refine xx_sub [2, 1, 0] rfl ?_
        exact K4 n21 n22 h
  refine xx_sub [2, 1, 0] rfl ?_
  exact L4 _ _ _ h

def f_X12_namesUsed_L4 (μ : mu_T) : Nat → Int → Int → Option Int
  | 0, _, _ => none
  | fu4 + 1, x1_4, x2_4 => lt_ x2_4 6
      (rd_ μ 1 293 (11 + x2_4) (fun v19 => jn_ (φ := Int → Option Int) (fun s0_30 => nm_ ((x1_4 + s0_30)) (fun n31 => nm_ (x2_4 + 1) (fun n32 => (f_X12_namesUsed_L4 μ fu4) n31 n32)))
      (fun J30 => eq_ v19 (-15)
      (J30 0)
      (J30 1))))
      (some x1_4)
def f_X12_namesUsed (μ : mu_T)  : Option Int :=
  f_X12_namesUsed_L4 μ 20000 0 0
set_option maxHeartbeats 4000000 in
set_option maxRecDepth 100000 in
theorem c_X12_namesUsed {G : gp_} {ad : Nat → Nat} (μ : mu_T)  (a : Int) (h : f_X12_namesUsed μ  = some a) : mi_ yX12_namesUsed cX12_namesUsed 3 (some .int) ({ frames := 0, cells := 0, slots := 0, locals := 0 } : Room) G 9 ad (ceM G ad) [.ref (ad 0)] μ a μ := by
  refine mi_in (own := "UrnHeapModel") (lv := [(0, .ref (ad 0))]) (by decide) rfl rfl (Nat.le_of_ble_eq_true rfl) (fun X C E => ?_)
  unfold f_X12_namesUsed at h
  refine xx_iconst C 1 rfl dX12_namesUsed_0 ?_
  refine xx_istore_n (lv1 := [(1, .int (iI 0)), (0, .ref (ad 0))]) C 2 rfl (by decide) dX12_namesUsed_1 rfl rfl ?_
  refine xx_iconst C 3 rfl dX12_namesUsed_2 ?_
  refine xx_istore_n (lv1 := [(2, .int (iI 0)), (1, .int (iI 0)), (0, .ref (ad 0))]) C 4 rfl (by decide) dX12_namesUsed_3 rfl rfl ?_
  have L4 : ∀ (fu4 : Nat) (x1_4 : Int) (x2_4 : Int), f_X12_namesUsed_L4 μ fu4 x1_4 x2_4 = some a → wx_ G X 9 ad (ceM G ad) μ 0 0 4 [(0, .ref (ad 0)), (1, .int (iI x1_4)), (2, .int (iI x2_4))] [] := by
    intro fu4
    induction fu4 with
    | zero => intro x1_4 x2_4 h; exact nn_ h
    | succ fu4 K4 =>
      intro x1_4 x2_4 h
      rw [f_X12_namesUsed_L4] at h
      generalize f_X12_namesUsed_L4 μ fu4 = R4 at K4 h
      refine xx_iload_n C 5 rfl 2 dX12_namesUsed_4 rfl rfl ?_
      refine xx_bipush C 7 rfl dX12_namesUsed_5 (by decide) ?_
      refine xx_icmp_ge (tgt := 38) C 10 rfl dX12_namesUsed_7 (by decide) h (fun h => ?_) (fun h => ?_)
      · refine xx_iload_n C 39 rfl 1 dX12_namesUsed_38 rfl rfl ?_
        exact xx_iretp C E rfl ⟨Nat.le_of_ble_eq_true rfl, Nat.le_of_ble_eq_true rfl⟩ dX12_namesUsed_39 h
      · refine xx_iload_n C 11 rfl 1 dX12_namesUsed_10 rfl rfl ?_
        refine xx_aload_n C 12 rfl 0 dX12_namesUsed_11 rfl rfl ?_
        refine xx_getr (fi := 0) C 15 rfl (by decide) (ceM_0 _ _ _) rfl in_X12 (by decide) rfl rfl w_1171 dX12_namesUsed_12 ?_
        refine xx_bipush C 17 rfl dX12_namesUsed_15 (by decide) ?_
        refine xx_iload_n C 18 rfl 2 dX12_namesUsed_17 rfl rfl ?_
        refine xx_iadd C 19 rfl dX12_namesUsed_18 ?_
        refine xx_iaload C 20 rfl (by decide) (fun _ => rfl) (by decide) dX12_namesUsed_19 h (fun v19 h => ?_)
        refine xx_bipush C 22 rfl dX12_namesUsed_20 (by decide) ?_
        refine jn_r (fun J => ∀ (s0_30 : Int), J s0_30 = some a → wx_ G X 9 ad (ceM G ad) μ 0 0 30 [(0, .ref (ad 0)), (2, .int (iI x2_4))] [.int (iI s0_30), .int (iI x1_4)]) h (fun s0_30 h => ?_) (fun J30 K30 h => ?_)
        · refine xx_iadd C 31 rfl dX12_namesUsed_30 ?_
          refine xx_nm C h (fun n31 h => ?_)
          refine xx_istore_n (lv1 := [(1, .int (iI n31)), (0, .ref (ad 0)), (2, .int (iI x2_4))]) C 32 rfl (by decide) dX12_namesUsed_31 rfl rfl ?_
          refine xx_iincn C 35 rfl 2 (by decide) dX12_namesUsed_32 rfl h (fun n32 h => ?_)
          refine xx_lv (lv1 := [(2, .int (iI n32)), (1, .int (iI n31)), (0, .ref (ad 0))]) rfl ?_
          refine xx_goto C 4 dX12_namesUsed_35 (by decide) ?_
          refine xx_sub [2, 1, 0] rfl ?_
          exact K4 n31 n32 h
        · refine xx_icmp_ne (tgt := 29) C 25 rfl dX12_namesUsed_22 (by decide) h (fun h => ?_) (fun h => ?_)
          · refine xx_iconst C 30 rfl dX12_namesUsed_29 ?_
            refine xx_sub [0, 2] rfl ?_
            exact K30 1 h
          · refine xx_iconst C 26 rfl dX12_namesUsed_25 ?_
            refine xx_goto C 30 dX12_namesUsed_26 (by decide) ?_
            refine xx_sub [0, 2] rfl ?_
            exact K30 0 h
  refine xx_sub [2, 1, 0] rfl ?_
  exact L4 _ _ _ h

def f_X12_isThere (μ : mu_T) (a1 : Int) : Option Int :=
  eq_ a1 (-15)
      (some 1)
      (bd_ (f_X12_isUrn μ a1) (fun v8 => eq_ v8 0
      (some 0)
      (some 1)))
set_option maxHeartbeats 4000000 in
set_option maxRecDepth 100000 in
theorem c_X12_isThere {G : gp_} {ad : Nat → Nat} (μ : mu_T) (a1 : Int) (a : Int) (h : f_X12_isThere μ a1 = some a) : mi_ yX12_isThere cX12_isThere 2 (some .boolean) ({ frames := 2, cells := 0, slots := 0, locals := 43 } : Room) G 9 ad (ceM G ad) [.ref (ad 0), .int (iI a1)] μ a μ := by
  refine mi_in (own := "UrnHeapModel") (lv := [(0, .ref (ad 0)), (1, .int (iI a1))]) (by decide) rfl rfl (Nat.le_of_ble_eq_true rfl) (fun X C E => ?_)
  unfold f_X12_isThere at h
  refine xx_iload_n C 1 rfl 1 dX12_isThere_0 rfl rfl ?_
  refine xx_bipush C 3 rfl dX12_isThere_1 (by decide) ?_
  refine xx_icmp_eq (tgt := 14) C 6 rfl dX12_isThere_3 (by decide) h (fun h => ?_) (fun h => ?_)
  · refine xx_iconst C 15 rfl dX12_isThere_14 ?_
    refine xx_goto C 19 dX12_isThere_15 (by decide) ?_
    exact xx_zretl C E rfl rfl ⟨Nat.le_of_ble_eq_true rfl, Nat.le_of_ble_eq_true rfl⟩ dX12_isThere_19 h
  · refine xx_aload_n C 7 rfl 0 dX12_isThere_6 rfl rfl ?_
    refine xx_iload_n C 8 rfl 1 dX12_isThere_7 rfl rfl ?_
    refine xx_cVip (As := [.int (iI a1)]) (st := []) (o := 0) C 11 rfl (by decide) (ceM_0 _ _ _) rfl rfl ca_X12_isUrn cv_X12_isUrn w_1268 rfl ⟨Nat.le_of_ble_eq_true rfl, Nat.le_of_ble_eq_true rfl⟩ ⟨Nat.le_of_ble_eq_true rfl, Nat.le_of_ble_eq_true rfl⟩ (Nat.le_of_ble_eq_true rfl) dX12_isThere_8 (fun v8 e9 => c_X12_isUrn _ _ v8 e9) h (fun v8 h => ?_) rfl
    refine xx_if_eq (tgt := 18) C 14 rfl dX12_isThere_11 (by decide) h (fun h => ?_) (fun h => ?_)
    · refine xx_iconst C 19 rfl dX12_isThere_18 ?_
      exact xx_zretl C E rfl rfl ⟨Nat.le_of_ble_eq_true rfl, Nat.le_of_ble_eq_true rfl⟩ dX12_isThere_19 h
    · refine xx_iconst C 15 rfl dX12_isThere_14 ?_
      refine xx_goto C 19 dX12_isThere_15 (by decide) ?_
      exact xx_zretl C E rfl rfl ⟨Nat.le_of_ble_eq_true rfl, Nat.le_of_ble_eq_true rfl⟩ dX12_isThere_19 h

def f_X12_undo_L22  : Nat → Int → mu_T → Option (Int × mu_T)
  | 0, _, _ => none
  | fu22 + 1, x1_22, μ22 => lt_ x1_22 293
      (nm_ (μ22 0 4) (fun v42 => rd_ μ22 4 2344 ((293 * v42) + x1_22) (fun v48 => wr_ μ22 1 293 x1_22 v48 (fun μ49 => nm_ (x1_22 + 1) (fun n50 => (f_X12_undo_L22 fu22) n50 μ49)))))
      (nm_ (μ22 0 4) (fun v57 => some (v57, μ22)))
def f_X12_undo (μ : mu_T)  : Option (Int × mu_T) :=
  nm_ (μ 0 4) (fun v1 => eq_ v1 0
      (some ((-15), μ))
      (nm_ (μ 0 4) (fun v12 => wf_ μ 0 4 (v12 - 1) (fun μ17 => f_X12_undo_L22 20000 0 μ17))))
set_option maxHeartbeats 4000000 in
set_option maxRecDepth 100000 in
theorem c_X12_undo {G : gp_} {ad : Nat → Nat} (μ : mu_T)  (a : Int) (μr : mu_T) (h : f_X12_undo μ  = some (a, μr)) : mi_ yX12_undo cX12_undo 2 (some .int) ({ frames := 0, cells := 0, slots := 0, locals := 0 } : Room) G 9 ad (ceM G ad) [.ref (ad 0)] μ a μr := by
  refine mi_in (own := "UrnHeapModel") (lv := [(0, .ref (ad 0))]) (by decide) rfl rfl (Nat.le_of_ble_eq_true rfl) (fun X C E => ?_)
  unfold f_X12_undo at h
  refine xx_aload_n C 1 rfl 0 dX12_undo_0 rfl rfl ?_
  refine xx_geti (fi := 4) (j := 4) C 4 rfl (by decide) (ceM_0 _ _ _) rfl in_X12 (by decide) rfl rfl w_1175 dX12_undo_1 h (fun v1 h => ?_)
  refine xx_if_ne (tgt := 10) C 7 rfl dX12_undo_4 (by decide) h (fun h => ?_) (fun h => ?_)
  · refine xx_aload_n C 11 rfl 0 dX12_undo_10 rfl rfl ?_
    refine xx_dup C 12 rfl dX12_undo_11 rfl ?_
    refine xx_geti (fi := 4) (j := 4) C 15 rfl (by decide) (ceM_0 _ _ _) rfl in_X12 (by decide) rfl rfl w_1175 dX12_undo_12 h (fun v12 h => ?_)
    refine xx_iconst C 16 rfl dX12_undo_15 ?_
    refine xx_isub C 17 rfl dX12_undo_16 ?_
    refine xx_puti (fi := 4) (j := 4) C 20 rfl (by decide) (ceM_0 _ _ _) (puM_4 _ _ _ _) rfl in_X12 tyX12 tyX12_ok nmX12 (by decide) (Nat.le_of_ble_eq_true rfl) ⟨rfl, rfl, rfl⟩ w_1175 dX12_undo_17 h (fun μ17 h => ?_)
    refine xx_iconst C 21 rfl dX12_undo_20 ?_
    refine xx_istore_n (lv1 := [(1, .int (iI 0)), (0, .ref (ad 0))]) C 22 rfl (by decide) dX12_undo_21 rfl rfl ?_
    have L22 : ∀ (fu22 : Nat) (x1_22 : Int) (μ22 : mu_T), f_X12_undo_L22 fu22 x1_22 μ22 = some (a, μr) → wx_ G X 9 ad (ceM G ad) μ22 0 0 22 [(0, .ref (ad 0)), (1, .int (iI x1_22))] [] := by
      intro fu22
      induction fu22 with
      | zero => intro x1_22 μ22 h; exact nn_ h
      | succ fu22 K22 =>
        intro x1_22 μ22 h
        rw [f_X12_undo_L22] at h
        generalize f_X12_undo_L22 fu22 = R22 at K22 h
        refine xx_iload_n C 23 rfl 1 dX12_undo_22 rfl rfl ?_
        refine xx_sipush C 26 rfl dX12_undo_23 (by decide) ?_
        refine xx_icmp_ge (tgt := 56) C 29 rfl dX12_undo_26 (by decide) h (fun h => ?_) (fun h => ?_)
        · refine xx_aload_n C 57 rfl 0 dX12_undo_56 rfl rfl ?_
          refine xx_geti (fi := 4) (j := 4) C 60 rfl (by decide) (ceM_0 _ _ _) rfl in_X12 (by decide) rfl rfl w_1175 dX12_undo_57 h (fun v57 h => ?_)
          exact xx_iret C E rfl ⟨Nat.le_of_ble_eq_true rfl, Nat.le_of_ble_eq_true rfl⟩ dX12_undo_60 h
        · refine xx_aload_n C 30 rfl 0 dX12_undo_29 rfl rfl ?_
          refine xx_getr (fi := 0) C 33 rfl (by decide) (ceM_0 _ _ _) rfl in_X12 (by decide) rfl rfl w_1171 dX12_undo_30 ?_
          refine xx_iload_n C 34 rfl 1 dX12_undo_33 rfl rfl ?_
          refine xx_aload_n C 35 rfl 0 dX12_undo_34 rfl rfl ?_
          refine xx_getr (fi := 3) C 38 rfl (by decide) (ceM_0 _ _ _) rfl in_X12 (by decide) rfl rfl w_1174 dX12_undo_35 ?_
          refine xx_sipush C 41 rfl dX12_undo_38 (by decide) ?_
          refine xx_aload_n C 42 rfl 0 dX12_undo_41 rfl rfl ?_
          refine xx_geti (fi := 4) (j := 4) C 45 rfl (by decide) (ceM_0 _ _ _) rfl in_X12 (by decide) rfl rfl w_1175 dX12_undo_42 h (fun v42 h => ?_)
          refine xx_imul C 46 rfl dX12_undo_45 ?_
          refine xx_iload_n C 47 rfl 1 dX12_undo_46 rfl rfl ?_
          refine xx_iadd C 48 rfl dX12_undo_47 ?_
          refine xx_iaload C 49 rfl (by decide) (fun _ => rfl) (by decide) dX12_undo_48 h (fun v48 h => ?_)
          refine xx_iastore C 50 rfl (by decide) (fun _ => rfl) (by decide) dX12_undo_49 h (fun μ49 h => ?_)
          refine xx_iincn C 53 rfl 1 (by decide) dX12_undo_50 rfl h (fun n50 h => ?_)
          refine xx_lv (lv1 := [(1, .int (iI n50)), (0, .ref (ad 0))]) rfl ?_
          refine xx_goto C 22 dX12_undo_53 (by decide) ?_
          refine xx_sub [1, 0] rfl ?_
          exact K22 n50 μ49 h
    refine xx_sub [1, 0] rfl ?_
    exact L22 _ _ _ h
  · refine xx_bipush C 9 rfl dX12_undo_7 (by decide) ?_
    exact xx_iret C E rfl ⟨Nat.le_of_ble_eq_true rfl, Nat.le_of_ble_eq_true rfl⟩ dX12_undo_9 h

def f_X12_save_L2 (J27 : mu_T → Option (Int × mu_T)) : Nat → Int → mu_T → Option (Int × mu_T)
  | 0, _, _ => none
  | fu2 + 1, x1_2, μ2 => lt_ x1_2 293
      (rd_ μ2 1 293 x1_2 (fun v19 => wr_ μ2 3 293 x1_2 v19 (fun μ20 => nm_ (x1_2 + 1) (fun n21 => (f_X12_save_L2 J27 fu2) n21 μ20))))
      (J27 μ2)
def f_X12_save (μ : mu_T)  : Option (Int × mu_T) :=
  jn_ (φ := mu_T → Option (Int × mu_T)) (fun μ27 => wz_ μ27 0 5 1 (fun μ29 => bd_ (f_X12_manyUrns μ29) (fun v33 => some (v33, μ29))))
      (fun J27 => f_X12_save_L2 J27 20000 0 μ)
set_option maxHeartbeats 4000000 in
set_option maxRecDepth 100000 in
theorem c_X12_save {G : gp_} {ad : Nat → Nat} (μ : mu_T)  (a : Int) (μr : mu_T) (h : f_X12_save μ  = some (a, μr)) : mi_ yX12_save cX12_save 2 (some .int) ({ frames := 1, cells := 0, slots := 0, locals := 22 } : Room) G 9 ad (ceM G ad) [.ref (ad 0)] μ a μr := by
  refine mi_in (own := "UrnHeapModel") (lv := [(0, .ref (ad 0))]) (by decide) rfl rfl (Nat.le_of_ble_eq_true rfl) (fun X C E => ?_)
  unfold f_X12_save at h
  refine xx_iconst C 1 rfl dX12_save_0 ?_
  refine xx_istore_n (lv1 := [(1, .int (iI 0)), (0, .ref (ad 0))]) C 2 rfl (by decide) dX12_save_1 rfl rfl ?_
  refine jn_r (fun J => ∀ (μ27 : mu_T), J μ27 = some (a, μr) → wx_ G X 9 ad (ceM G ad) μ27 0 0 27 [(0, .ref (ad 0))] []) h (fun μ27 h => ?_) (fun J27 K27 h => ?_)
  · refine xx_aload_n C 28 rfl 0 dX12_save_27 rfl rfl ?_
    refine xx_iconst C 29 rfl dX12_save_28 ?_
    refine xx_putz (fi := 5) (j := 5) C 32 rfl (by decide) (ceM_0 _ _ _) (puM_5 _ _ _ _) rfl in_X12 tyX12 tyX12_ok nmX12 (by decide) (Nat.le_of_ble_eq_true rfl) ⟨rfl, rfl, rfl⟩ w_1176 dX12_save_29 h (fun μ29 h => ?_)
    refine xx_aload_n C 33 rfl 0 dX12_save_32 rfl rfl ?_
    refine xx_cVip (As := []) (st := []) (o := 0) C 36 rfl (by decide) (ceM_0 _ _ _) rfl rfl ca_X12_manyUrns cv_X12_manyUrns w_1553 rfl ⟨Nat.le_of_ble_eq_true rfl, Nat.le_of_ble_eq_true rfl⟩ ⟨Nat.le_of_ble_eq_true rfl, Nat.le_of_ble_eq_true rfl⟩ (Nat.le_of_ble_eq_true rfl) dX12_save_33 (fun v33 e9 => c_X12_manyUrns _ v33 e9) h (fun v33 h => ?_) rfl
    exact xx_iret C E rfl ⟨Nat.le_of_ble_eq_true rfl, Nat.le_of_ble_eq_true rfl⟩ dX12_save_36 h
  · have L2 : ∀ (fu2 : Nat) (x1_2 : Int) (μ2 : mu_T), f_X12_save_L2 J27 fu2 x1_2 μ2 = some (a, μr) → wx_ G X 9 ad (ceM G ad) μ2 0 0 2 [(0, .ref (ad 0)), (1, .int (iI x1_2))] [] := by
      intro fu2
      induction fu2 with
      | zero => intro x1_2 μ2 h; exact nn_ h
      | succ fu2 K2 =>
        intro x1_2 μ2 h
        rw [f_X12_save_L2] at h
        generalize f_X12_save_L2 J27 fu2 = R2 at K2 h
        refine xx_iload_n C 3 rfl 1 dX12_save_2 rfl rfl ?_
        refine xx_sipush C 6 rfl dX12_save_3 (by decide) ?_
        refine xx_icmp_ge (tgt := 27) C 9 rfl dX12_save_6 (by decide) h (fun h => ?_) (fun h => ?_)
        · refine xx_sub [0] rfl ?_
          exact K27 μ2 h
        · refine xx_aload_n C 10 rfl 0 dX12_save_9 rfl rfl ?_
          refine xx_getr (fi := 2) C 13 rfl (by decide) (ceM_0 _ _ _) rfl in_X12 (by decide) rfl rfl w_1173 dX12_save_10 ?_
          refine xx_iload_n C 14 rfl 1 dX12_save_13 rfl rfl ?_
          refine xx_aload_n C 15 rfl 0 dX12_save_14 rfl rfl ?_
          refine xx_getr (fi := 0) C 18 rfl (by decide) (ceM_0 _ _ _) rfl in_X12 (by decide) rfl rfl w_1171 dX12_save_15 ?_
          refine xx_iload_n C 19 rfl 1 dX12_save_18 rfl rfl ?_
          refine xx_iaload C 20 rfl (by decide) (fun _ => rfl) (by decide) dX12_save_19 h (fun v19 h => ?_)
          refine xx_iastore C 21 rfl (by decide) (fun _ => rfl) (by decide) dX12_save_20 h (fun μ20 h => ?_)
          refine xx_iincn C 24 rfl 1 (by decide) dX12_save_21 rfl h (fun n21 h => ?_)
          refine xx_lv (lv1 := [(1, .int (iI n21)), (0, .ref (ad 0))]) rfl ?_
          refine xx_goto C 2 dX12_save_24 (by decide) ?_
          refine xx_sub [1, 0] rfl ?_
          exact K2 n21 μ20 h
    refine xx_sub [1, 0] rfl ?_
    exact L2 _ _ _ h

def f_X12_restore_L12 (J37 : mu_T → Option (Int × mu_T)) : Nat → Int → mu_T → Option (Int × mu_T)
  | 0, _, _ => none
  | fu12 + 1, x1_12, μ12 => lt_ x1_12 293
      (rd_ μ12 3 293 x1_12 (fun v29 => wr_ μ12 1 293 x1_12 v29 (fun μ30 => nm_ (x1_12 + 1) (fun n31 => (f_X12_restore_L12 J37 fu12) n31 μ30))))
      (J37 μ12)
def f_X12_restore (μ : mu_T)  : Option (Int × mu_T) :=
  nm_ (μ 0 5) (fun v1 => eq_ v1 0
      (some ((-15), μ))
      (jn_ (φ := mu_T → Option (Int × mu_T)) (fun μ37 => wf_ μ37 0 4 0 (fun μ39 => bd_ (f_X12_manyUrns μ39) (fun v43 => some (v43, μ39))))
      (fun J37 => f_X12_restore_L12 J37 20000 0 μ)))
set_option maxHeartbeats 4000000 in
set_option maxRecDepth 100000 in
theorem c_X12_restore {G : gp_} {ad : Nat → Nat} (μ : mu_T)  (a : Int) (μr : mu_T) (h : f_X12_restore μ  = some (a, μr)) : mi_ yX12_restore cX12_restore 2 (some .int) ({ frames := 1, cells := 0, slots := 0, locals := 22 } : Room) G 9 ad (ceM G ad) [.ref (ad 0)] μ a μr := by
  refine mi_in (own := "UrnHeapModel") (lv := [(0, .ref (ad 0))]) (by decide) rfl rfl (Nat.le_of_ble_eq_true rfl) (fun X C E => ?_)
  unfold f_X12_restore at h
  refine xx_aload_n C 1 rfl 0 dX12_restore_0 rfl rfl ?_
  refine xx_geti (fi := 5) (j := 5) C 4 rfl (by decide) (ceM_0 _ _ _) rfl in_X12 (by decide) rfl rfl w_1176 dX12_restore_1 h (fun v1 h => ?_)
  refine xx_if_ne (tgt := 10) C 7 rfl dX12_restore_4 (by decide) h (fun h => ?_) (fun h => ?_)
  · refine xx_iconst C 11 rfl dX12_restore_10 ?_
    refine xx_istore_n (lv1 := [(1, .int (iI 0)), (0, .ref (ad 0))]) C 12 rfl (by decide) dX12_restore_11 rfl rfl ?_
    refine jn_r (fun J => ∀ (μ37 : mu_T), J μ37 = some (a, μr) → wx_ G X 9 ad (ceM G ad) μ37 0 0 37 [(0, .ref (ad 0))] []) h (fun μ37 h => ?_) (fun J37 K37 h => ?_)
    · refine xx_aload_n C 38 rfl 0 dX12_restore_37 rfl rfl ?_
      refine xx_iconst C 39 rfl dX12_restore_38 ?_
      refine xx_puti (fi := 4) (j := 4) C 42 rfl (by decide) (ceM_0 _ _ _) (puM_4 _ _ _ _) rfl in_X12 tyX12 tyX12_ok nmX12 (by decide) (Nat.le_of_ble_eq_true rfl) ⟨rfl, rfl, rfl⟩ w_1175 dX12_restore_39 h (fun μ39 h => ?_)
      refine xx_aload_n C 43 rfl 0 dX12_restore_42 rfl rfl ?_
      refine xx_cVip (As := []) (st := []) (o := 0) C 46 rfl (by decide) (ceM_0 _ _ _) rfl rfl ca_X12_manyUrns cv_X12_manyUrns w_1553 rfl ⟨Nat.le_of_ble_eq_true rfl, Nat.le_of_ble_eq_true rfl⟩ ⟨Nat.le_of_ble_eq_true rfl, Nat.le_of_ble_eq_true rfl⟩ (Nat.le_of_ble_eq_true rfl) dX12_restore_43 (fun v43 e9 => c_X12_manyUrns _ v43 e9) h (fun v43 h => ?_) rfl
      exact xx_iret C E rfl ⟨Nat.le_of_ble_eq_true rfl, Nat.le_of_ble_eq_true rfl⟩ dX12_restore_46 h
    · have L12 : ∀ (fu12 : Nat) (x1_12 : Int) (μ12 : mu_T), f_X12_restore_L12 J37 fu12 x1_12 μ12 = some (a, μr) → wx_ G X 9 ad (ceM G ad) μ12 0 0 12 [(0, .ref (ad 0)), (1, .int (iI x1_12))] [] := by
        intro fu12
        induction fu12 with
        | zero => intro x1_12 μ12 h; exact nn_ h
        | succ fu12 K12 =>
          intro x1_12 μ12 h
          rw [f_X12_restore_L12] at h
          generalize f_X12_restore_L12 J37 fu12 = R12 at K12 h
          refine xx_iload_n C 13 rfl 1 dX12_restore_12 rfl rfl ?_
          refine xx_sipush C 16 rfl dX12_restore_13 (by decide) ?_
          refine xx_icmp_ge (tgt := 37) C 19 rfl dX12_restore_16 (by decide) h (fun h => ?_) (fun h => ?_)
          · refine xx_sub [0] rfl ?_
            exact K37 μ12 h
          · refine xx_aload_n C 20 rfl 0 dX12_restore_19 rfl rfl ?_
            refine xx_getr (fi := 0) C 23 rfl (by decide) (ceM_0 _ _ _) rfl in_X12 (by decide) rfl rfl w_1171 dX12_restore_20 ?_
            refine xx_iload_n C 24 rfl 1 dX12_restore_23 rfl rfl ?_
            refine xx_aload_n C 25 rfl 0 dX12_restore_24 rfl rfl ?_
            refine xx_getr (fi := 2) C 28 rfl (by decide) (ceM_0 _ _ _) rfl in_X12 (by decide) rfl rfl w_1173 dX12_restore_25 ?_
            refine xx_iload_n C 29 rfl 1 dX12_restore_28 rfl rfl ?_
            refine xx_iaload C 30 rfl (by decide) (fun _ => rfl) (by decide) dX12_restore_29 h (fun v29 h => ?_)
            refine xx_iastore C 31 rfl (by decide) (fun _ => rfl) (by decide) dX12_restore_30 h (fun μ30 h => ?_)
            refine xx_iincn C 34 rfl 1 (by decide) dX12_restore_31 rfl h (fun n31 h => ?_)
            refine xx_lv (lv1 := [(1, .int (iI n31)), (0, .ref (ad 0))]) rfl ?_
            refine xx_goto C 12 dX12_restore_34 (by decide) ?_
            refine xx_sub [1, 0] rfl ?_
            exact K12 n31 μ30 h
      refine xx_sub [1, 0] rfl ?_
      exact L12 _ _ _ h
  · refine xx_bipush C 9 rfl dX12_restore_7 (by decide) ?_
    exact xx_iret C E rfl ⟨Nat.le_of_ble_eq_true rfl, Nat.le_of_ble_eq_true rfl⟩ dX12_restore_9 h
end
